-- FallTrials.reasons(III)I
abbrev qX11_reasons : MT := (cX11_reasons, RX11, "reasons", (some .int), 5, 135, 5)
def X11_reasons_f (a0 : Nat) (i1 : Int32) (i2 : Int32) (i3 : Int32) (h : AH) : Option (Int32 × AH) :=
  G (xc h a0 = 11) <|
  BN (X11_wrongPlace_f a0 i1 i2 i3 h) fun v3 h2 =>
  if v3 = 0 then (
    G (xc h2 a0 = 11) <|
    G (xc h2 (xR h2 a0 8) = 9) <|
    BN (X9_play_f (xR h2 a0 8) (xR h2 a0 1) (xR h2 a0 3) (xR h2 a0 9) h2) fun _ h6 =>
    G (xc h6 a0 = 11) <|
    G (xc h6 (xR h6 a0 9) = 8) <|
    BN (X8_listReasons_f (xR h6 a0 9) (xR h6 a0 1) i1 i2 i3 h6) fun _ h9 =>
    G (xc h9 a0 = 11) <|
    G (xc h9 (xR h9 a0 9) = 8) <|
    BN (X11_grant_f a0 (xI h9 (xR h9 a0 9) 5) h9) fun v13 h12 =>
    some (v13, h12)
  ) else (
    G (xc h2 a0 = 11) <|
    BN (X11_refuse_f a0 v3 h2) fun v16 h15 =>
    some (v16, h15)
  )
theorem jX11_reasons (x : CT) (a0 : Nat) (i1 : Int32) (i2 : Int32) (i3 : Int32) (h : AH) : J x qX11_reasons ZI 0 [(0, rv (zx x) a0), (1, .int i1), (2, .int i2), (3, .int i3)] [] h (X11_reasons_f a0 i1 i2 i3 h) := by
  unfold X11_reasons_f
  refine J_aload_n 0 dX11_reasons_0 rv_is rfl ?_
  refine J_iload_n 1 dX11_reasons_1 rfl ?_
  refine J_iload_n 2 dX11_reasons_2 rfl ?_
  refine J_iload_n 3 dX11_reasons_3 rfl ?_
  refine J_G (fun g1 => ?_)
  refine J.callV (n := 3) (As := [.int i1, .int i2, .int i3]) kc_11 (ctX11_wrongPlace (lx x) (wx x) a0 i1 i2 i3 h) kw_4_219 kw_4_216 kw_4_218 kp_2 kw_1_1 (by decide +kernel) rfl (by decide) (Nat.zero_le _) rfl dX11_reasons_4 g1 (fun v3 h2 => ?_)
  show J x _ _ 7 _ [.int v3] h2 _
  refine J_istore dX11_reasons_7 (by decide) (SD.a (lvr := [(0, rv (zx x) a0), (1, .int i1), (2, .int i2), (3, .int i3)]) [0, 1, 2, 3] rfl rfl) ?_
  refine J_iload 0 dX11_reasons_9 rfl ?_
  refine J_if_eq (tgt := 21) dX11_reasons_11 rfl ?_ ?_
  · refine J_aload_n 1 dX11_reasons_21 rv_is rfl ?_
    refine J_G (fun g4 => ?_)
    refine J_getR kc_11 8 (by decide) rfl rfl kw_3_50 dX11_reasons_22 g4 ?_
    refine J_aload_n 1 dX11_reasons_25 rv_is rfl ?_
    refine J_getR kc_11 1 (by decide) rfl rfl kw_3_43 dX11_reasons_26 g4 ?_
    refine J_aload_n 1 dX11_reasons_29 rv_is rfl ?_
    refine J_getR kc_11 3 (by decide) rfl rfl kw_3_45 dX11_reasons_30 g4 ?_
    refine J_aload_n 1 dX11_reasons_33 rv_is rfl ?_
    refine J_getR kc_11 9 (by decide) rfl rfl kw_3_51 dX11_reasons_34 g4 ?_
    refine J_G (fun g5 => ?_)
    refine J.callV (n := 3) (As := [rv (zx x) (xR h2 a0 1), rv (zx x) (xR h2 a0 3), rv (zx x) (xR h2 a0 9)]) kc_9 (ctX9_play (lx x) (wx x) (xR h2 a0 8) (xR h2 a0 1) (xR h2 a0 3) (xR h2 a0 9) h2) kw_4_116 kw_4_113 kw_4_114 kw_4_115 kw_1_7 (by decide +kernel) rfl (by decide) (Nat.zero_le _) rfl dX11_reasons_37 g5 (fun _ h6 => ?_)
    show J x _ _ 40 _ [] h6 _
    refine J_aload_n 1 dX11_reasons_40 rv_is rfl ?_
    refine J_G (fun g7 => ?_)
    refine J_getR kc_11 9 (by decide) rfl rfl kw_3_51 dX11_reasons_41 g7 ?_
    refine J_aload_n 1 dX11_reasons_44 rv_is rfl ?_
    refine J_getR kc_11 1 (by decide) rfl rfl kw_3_43 dX11_reasons_45 g7 ?_
    refine J_iload_n 2 dX11_reasons_48 rfl ?_
    refine J_iload_n 3 dX11_reasons_49 rfl ?_
    refine J_iload_n 4 dX11_reasons_50 rfl ?_
    refine J_G (fun g8 => ?_)
    refine J.callV (n := 4) (As := [rv (zx x) (xR h6 a0 1), .int i1, .int i2, .int i3]) kc_8 (ctX8_listReasons (lx x) (wx x) (xR h6 a0 9) (xR h6 a0 1) i1 i2 i3 h6) kw_4_231 kw_4_228 kw_4_229 kw_4_230 kw_1_10 (by decide +kernel) rfl (by decide) (Nat.zero_le _) rfl dX11_reasons_51 g8 (fun _ h9 => ?_)
    show J x _ _ 54 _ [] h9 _
    refine J_aload_n 1 dX11_reasons_54 rv_is rfl ?_
    refine J_aload_n 1 dX11_reasons_55 rv_is rfl ?_
    refine J_G (fun g10 => ?_)
    refine J_getR kc_11 9 (by decide) rfl rfl kw_3_51 dX11_reasons_56 g10 ?_
    refine J_G (fun g11 => ?_)
    refine J_getI kc_8 5 (by decide) rfl rfl kw_2_149 dX11_reasons_59 g11 ?_
    refine J.callV (n := 1) (As := [.int (xI h9 (xR h9 a0 9) 5)]) kc_11 (ctX11_grant (lx x) (wx x) a0 (xI h9 (xR h9 a0 9) 5) h9) kw_4_65 kw_4_62 kw_4_64 kp_1 kw_1_1 (by decide +kernel) rfl (by decide) (Nat.zero_le _) rfl dX11_reasons_62 g10 (fun v13 h12 => ?_)
    show J x _ _ 65 _ [.int v13] h12 _
    exact J_iret dX11_reasons_65
  · refine J_aload_n 1 dX11_reasons_14 rv_is rfl ?_
    refine J_iload 0 dX11_reasons_15 rfl ?_
    refine J_G (fun g14 => ?_)
    refine J.callV (n := 1) (As := [.int v3]) kc_11 (ctX11_refuse (lx x) (wx x) a0 v3 h2) kw_3_112 kw_3_109 kw_3_111 kp_0 kw_1_1 (by decide +kernel) rfl (by decide) (Nat.zero_le _) rfl dX11_reasons_17 g14 (fun v16 h15 => ?_)
    show J x _ _ 20 _ [.int v16] h15 _
    exact J_iret dX11_reasons_20
theorem ctX11_reasons (l : Launch) (w : WT) (a0 : Nat) (i1 : Int32) (i2 : Int32) (i3 : Int32) (h : AH) : CM l w yX11_reasons cX11_reasons 5 (some .int) 5 135 KI [rv (w.1) a0, .int i1, .int i2, .int i3] h (X11_reasons_f a0 i1 i2 i3 h) :=
  CM.of (by decide +kernel) (by simp [lg_sl, rv_cat, cat_I, cat_L, cat_S]) (lv := [(0, rv (w.1) a0), (1, .int i1), (2, .int i2), (3, .int i3)]) (by simp [lv_args, rv_cat, cat_I, cat_L, cat_S]) (fun x hx => by subst hx; exact jX11_reasons x a0 i1 i2 i3 h)
-- FallTrials.word(II)I
abbrev qX11_word : MT := (cX11_word, RX11, "word", (some .int), 5, 135, 3)
def X11_word_B18 (a0 : Nat) (h : AH) : Option (Int32 × AH) :=
  G (xc h a0 = 11) <|
  BN (X11_refuse_f a0 (nI 1) h) fun v3 h2 =>
  some (v3, h2)
theorem jX11_word_B18 (x : CT) (a0 : Nat) (h : AH) : J x qX11_word ZI 18 [(0, rv (zx x) a0)] [] h (X11_word_B18 a0 h) := by
  unfold X11_word_B18
  refine J_aload_n 0 dX11_word_18 rv_is rfl ?_
  refine J_iconst (v := nI 1) dX11_word_19 rfl ?_
  refine J_G (fun g1 => ?_)
  refine J.callV (n := 1) (As := [.int (nI 1)]) kc_11 (ctX11_refuse (lx x) (wx x) a0 (nI 1) h) kw_3_112 kw_3_109 kw_3_111 kp_0 kw_1_1 (by decide +kernel) rfl (by decide) (Nat.zero_le _) rfl dX11_word_20 g1 (fun v3 h2 => ?_)
  show J x _ _ 23 _ [.int v3] h2 _
  exact J_iret dX11_word_23
def X11_word_B39 (a0 : Nat) (h : AH) : Option (Int32 × AH) :=
  G (xc h a0 = 11) <|
  BN (X11_refuse_f a0 (nI 2) h) fun v3 h2 =>
  some (v3, h2)
theorem jX11_word_B39 (x : CT) (a0 : Nat) (h : AH) : J x qX11_word ZI 39 [(0, rv (zx x) a0)] [] h (X11_word_B39 a0 h) := by
  unfold X11_word_B39
  refine J_aload_n 0 dX11_word_39 rv_is rfl ?_
  refine J_iconst (v := nI 2) dX11_word_40 rfl ?_
  refine J_G (fun g1 => ?_)
  refine J.callV (n := 1) (As := [.int (nI 2)]) kc_11 (ctX11_refuse (lx x) (wx x) a0 (nI 2) h) kw_3_112 kw_3_109 kw_3_111 kp_0 kw_1_1 (by decide +kernel) rfl (by decide) (Nat.zero_le _) rfl dX11_word_41 g1 (fun v3 h2 => ?_)
  show J x _ _ 44 _ [.int v3] h2 _
  exact J_iret dX11_word_44
def X11_word_f (a0 : Nat) (i1 : Int32) (i2 : Int32) (h : AH) : Option (Int32 × AH) :=
  if i1 < 0 then (
    X11_word_B18 a0 h
  ) else (
    G (xc h a0 = 11) <|
    G (xc h (xR h a0 1) = 10) <|
    G (xc h (xR h (xR h a0 1) 0) = 0) <|
    if i1 < (xI h (xR h (xR h a0 1) 0) 4) then (
      if i2 < 0 then (
        X11_word_B39 a0 h
      ) else (
        G (xc h a0 = 11) <|
        G (xc h (xR h a0 1) = 10) <|
        if i2 < (xI h (xR h a0 1) 1) then (
          G (xc h a0 = 11) <|
          G (xc h (xR h a0 8) = 9) <|
          BN (X9_play_f (xR h a0 8) (xR h a0 1) (xR h a0 3) (xR h a0 9) h) fun _ h8 =>
          G (xc h8 a0 = 11) <|
          G (xc h8 (xR h8 a0 9) = 8) <|
          G (xc h8 (xR h8 (xR h8 a0 9) 3) = 16) <|
          G (gx ((i1 * (nI 7)) + i2) (xz h8 (xR h8 (xR h8 a0 9) 3))) <|
          BN (X11_grant_f a0 (xI h8 (xR h8 (xR h8 a0 9) 3) ((i1 * (nI 7)) + i2).toNatClampNeg) h8) fun v14 h13 =>
          some (v14, h13)
        ) else (
          X11_word_B39 a0 h
        )
      )
    ) else (
      X11_word_B18 a0 h
    )
  )
theorem jX11_word (x : CT) (a0 : Nat) (i1 : Int32) (i2 : Int32) (h : AH) : J x qX11_word ZI 0 [(0, rv (zx x) a0), (1, .int i1), (2, .int i2)] [] h (X11_word_f a0 i1 i2 h) := by
  unfold X11_word_f
  refine J_iload_n 1 dX11_word_0 rfl ?_
  refine J_if_lt (tgt := 18) dX11_word_1 rfl ?_ ?_
  · exact J_sub [0] rfl (jX11_word_B18 x a0 h)
  · refine J_iload_n 1 dX11_word_4 rfl ?_
    refine J_aload_n 0 dX11_word_5 rv_is rfl ?_
    refine J_G (fun g1 => ?_)
    refine J_getR kc_11 1 (by decide) rfl rfl kw_3_43 dX11_word_6 g1 ?_
    refine J_G (fun g2 => ?_)
    refine J_getR kc_10 0 (by decide) rfl rfl kw_2_13 dX11_word_9 g2 ?_
    refine J_G (fun g3 => ?_)
    refine J_getI kc_0 4 (by decide) rfl rfl kw_1_127 dX11_word_12 g3 ?_
    refine J_icmp_lt (tgt := 24) dX11_word_15 rfl ?_ ?_
    · refine J_iload_n 2 dX11_word_24 rfl ?_
      refine J_if_lt (tgt := 39) dX11_word_25 rfl ?_ ?_
      · exact J_sub [0] rfl (jX11_word_B39 x a0 h)
      · refine J_iload_n 2 dX11_word_28 rfl ?_
        refine J_aload_n 0 dX11_word_29 rv_is rfl ?_
        refine J_G (fun g4 => ?_)
        refine J_getR kc_11 1 (by decide) rfl rfl kw_3_43 dX11_word_30 g4 ?_
        refine J_G (fun g5 => ?_)
        refine J_getI kc_10 1 (by decide) rfl rfl kw_2_22 dX11_word_33 g5 ?_
        refine J_icmp_lt (tgt := 45) dX11_word_36 rfl ?_ ?_
        · refine J_aload_n 0 dX11_word_45 rv_is rfl ?_
          refine J_G (fun g6 => ?_)
          refine J_getR kc_11 8 (by decide) rfl rfl kw_3_50 dX11_word_46 g6 ?_
          refine J_aload_n 0 dX11_word_49 rv_is rfl ?_
          refine J_getR kc_11 1 (by decide) rfl rfl kw_3_43 dX11_word_50 g6 ?_
          refine J_aload_n 0 dX11_word_53 rv_is rfl ?_
          refine J_getR kc_11 3 (by decide) rfl rfl kw_3_45 dX11_word_54 g6 ?_
          refine J_aload_n 0 dX11_word_57 rv_is rfl ?_
          refine J_getR kc_11 9 (by decide) rfl rfl kw_3_51 dX11_word_58 g6 ?_
          refine J_G (fun g7 => ?_)
          refine J.callV (n := 3) (As := [rv (zx x) (xR h a0 1), rv (zx x) (xR h a0 3), rv (zx x) (xR h a0 9)]) kc_9 (ctX9_play (lx x) (wx x) (xR h a0 8) (xR h a0 1) (xR h a0 3) (xR h a0 9) h) kw_4_116 kw_4_113 kw_4_114 kw_4_115 kw_1_7 (by decide +kernel) rfl (by decide) (Nat.zero_le _) rfl dX11_word_61 g7 (fun _ h8 => ?_)
          show J x _ _ 64 _ [] h8 _
          refine J_aload_n 0 dX11_word_64 rv_is rfl ?_
          refine J_aload_n 0 dX11_word_65 rv_is rfl ?_
          refine J_G (fun g9 => ?_)
          refine J_getR kc_11 9 (by decide) rfl rfl kw_3_51 dX11_word_66 g9 ?_
          refine J_G (fun g10 => ?_)
          refine J_getR kc_8 3 (by decide) rfl rfl kw_2_145 dX11_word_69 g10 ?_
          refine J_iload_n 1 dX11_word_72 rfl ?_
          refine J_bipush (v := nI 7) dX11_word_73 rfl ?_
          refine J_imul dX11_word_75 ?_
          refine J_iload_n 2 dX11_word_76 rfl ?_
          refine J_iadd dX11_word_77 ?_
          refine J_G (fun g11 => ?_)
          refine J_G (fun g12 => ?_)
          refine J_iald dX11_word_78 g11 g12 ?_
          refine J.callV (n := 1) (As := [.int (xI h8 (xR h8 (xR h8 a0 9) 3) ((i1 * (nI 7)) + i2).toNatClampNeg)]) kc_11 (ctX11_grant (lx x) (wx x) a0 (xI h8 (xR h8 (xR h8 a0 9) 3) ((i1 * (nI 7)) + i2).toNatClampNeg) h8) kw_4_65 kw_4_62 kw_4_64 kp_1 kw_1_1 (by decide +kernel) rfl (by decide) (Nat.zero_le _) rfl dX11_word_79 g9 (fun v14 h13 => ?_)
          show J x _ _ 82 _ [.int v14] h13 _
          exact J_iret dX11_word_82
        · exact J_sub [0] rfl (jX11_word_B39 x a0 h)
    · exact J_sub [0] rfl (jX11_word_B18 x a0 h)
theorem ctX11_word (l : Launch) (w : WT) (a0 : Nat) (i1 : Int32) (i2 : Int32) (h : AH) : CM l w yX11_word cX11_word 3 (some .int) 5 135 KI [rv (w.1) a0, .int i1, .int i2] h (X11_word_f a0 i1 i2 h) :=
  CM.of (by decide +kernel) (by simp [lg_sl, rv_cat, cat_I, cat_L, cat_S]) (lv := [(0, rv (w.1) a0), (1, .int i1), (2, .int i2)]) (by simp [lv_args, rv_cat, cat_I, cat_L, cat_S]) (fun x hx => by subst hx; exact jX11_word x a0 i1 i2 h)
-- FallTrials.differs(I)I
abbrev qX11_differs : MT := (cX11_differs, RX11, "differs", (some .int), 5, 135, 7)
def X11_differs_B16 (a0 : Nat) (h : AH) : Option (Int32 × AH) :=
  G (xc h a0 = 11) <|
  BN (X11_refuse_f a0 (nI 1) h) fun v3 h2 =>
  some (v3, h2)
theorem jX11_differs_B16 (x : CT) (a0 : Nat) (h : AH) : J x qX11_differs ZI 16 [(0, rv (zx x) a0)] [] h (X11_differs_B16 a0 h) := by
  unfold X11_differs_B16
  refine J_aload_n 0 dX11_differs_16 rv_is rfl ?_
  refine J_iconst (v := nI 1) dX11_differs_17 rfl ?_
  refine J_G (fun g1 => ?_)
  refine J.callV (n := 1) (As := [.int (nI 1)]) kc_11 (ctX11_refuse (lx x) (wx x) a0 (nI 1) h) kw_3_112 kw_3_109 kw_3_111 kp_0 kw_1_1 (by decide +kernel) rfl (by decide) (Nat.zero_le _) rfl dX11_differs_18 g1 (fun v3 h2 => ?_)
  show J x _ _ 21 _ [.int v3] h2 _
  exact J_iret dX11_differs_21
def X11_differs_B166 (a0 : Nat) (h : AH) : Option (Int32 × AH) :=
  G (xc h a0 = 11) <|
  BN (X11_grant_f a0 (-2) h) fun v3 h2 =>
  some (v3, h2)
theorem jX11_differs_B166 (x : CT) (a0 : Nat) (h : AH) : J x qX11_differs ZI 166 [(0, rv (zx x) a0)] [] h (X11_differs_B166 a0 h) := by
  unfold X11_differs_B166
  refine J_aload_n 0 dX11_differs_166 rv_is rfl ?_
  refine J_bipush (v := (-2)) dX11_differs_167 rfl ?_
  refine J_G (fun g1 => ?_)
  refine J.callV (n := 1) (As := [.int ((-2))]) kc_11 (ctX11_grant (lx x) (wx x) a0 (-2) h) kw_4_65 kw_4_62 kw_4_64 kp_1 kw_1_1 (by decide +kernel) rfl (by decide) (Nat.zero_le _) rfl dX11_differs_169 g1 (fun v3 h2 => ?_)
  show J x _ _ 172 _ [.int v3] h2 _
  exact J_iret dX11_differs_172
def X11_differs_B160 (k62 : (Nat → Int32 → Int32 → AH → Option (Int32 × AH))) (a0 : Nat) (i1 : Int32) (i2 : Int32) (h : AH) : Option (Int32 × AH) :=
  LT (i2 + nI 1) fun v1 =>
  k62 a0 i1 v1 h
theorem jX11_differs_B160 (x : CT) (k62 : (Nat → Int32 → Int32 → AH → Option (Int32 × AH))) (hk62 : ∀ (a0 : Nat) (i1 : Int32) (i2 : Int32) (h : AH), J x qX11_differs ZI 62 [(0, rv (zx x) a0), (1, .int i1), (2, .int i2)] [] h (k62 a0 i1 i2 h)) (a0 : Nat) (i1 : Int32) (i2 : Int32) (h : AH) : J x qX11_differs ZI 160 [(0, rv (zx x) a0), (1, .int i1), (2, .int i2)] [] h (X11_differs_B160 k62 a0 i1 i2 h) := by
  unfold X11_differs_B160
  refine J_iincL (u := i2 + nI 1) 2 dX11_differs_160 rfl rfl (by decide) (SD.a (lvr := [(0, rv (zx x) a0), (1, .int i1)]) [0, 1] rfl rfl) (fun v1 => ?_)
  refine J_goto (tgt := 62) dX11_differs_163 rfl ?_
  exact J_sub [1, 2, 0] rfl (hk62 a0 i1 v1 h)
def X11_differs_B127 (a0 : Nat) (i1 : Int32) (i2 : Int32) (i3 : Int32) (i4 : Int32) (i5 : Int32) (h : AH) : Option (Int32 × AH) :=
  BN (J6_numberOfTrailingZeros_0f7a4_f i5 h) fun v2 h1 =>
  BN (X11_partOf_f i1 i2 i3 v2 ((i4 >>> (v2 &&& 31)) &&& (nI 1)) h1) fun v4 h3 =>
  G (xc h3 a0 = 11) <|
  BN (X11_grant_f a0 v4 h3) fun v7 h6 =>
  some (v7, h6)
theorem jX11_differs_B127 (x : CT) (a0 : Nat) (i1 : Int32) (i2 : Int32) (i3 : Int32) (i4 : Int32) (i5 : Int32) (h : AH) : J x qX11_differs ZI 127 [(0, rv (zx x) a0), (1, .int i1), (2, .int i2), (3, .int i3), (4, .int i4), (5, .int i5)] [] h (X11_differs_B127 a0 i1 i2 i3 i4 i5 h) := by
  unfold X11_differs_B127
  refine J_iload 5 dX11_differs_127 rfl ?_
  refine J.callS (n := 1) (As := [.int i5]) (ctJ6_numberOfTrailingZeros_0f7a4 (lx x) (wx x) i5 h) kw_5_30 kw_5_28 kw_5_29 kw_1_27 (by decide +kernel) rfl (by decide) (Nat.zero_le _) rfl dX11_differs_129 (fun v2 h1 => ?_)
  show J x _ _ 132 _ [.int v2] h1 _
  refine J_istore dX11_differs_132 (by decide) (SD.a (lvr := [(0, rv (zx x) a0), (1, .int i1), (2, .int i2), (3, .int i3), (4, .int i4)]) [0, 1, 2, 3, 4] rfl rfl) ?_
  refine J_aload_n 1 dX11_differs_134 rv_is rfl ?_
  refine J_iload_n 2 dX11_differs_135 rfl ?_
  refine J_iload_n 3 dX11_differs_136 rfl ?_
  refine J_iload_n 4 dX11_differs_137 rfl ?_
  refine J_iload 0 dX11_differs_138 rfl ?_
  refine J_iload 5 dX11_differs_140 rfl ?_
  refine J_iload 0 dX11_differs_142 rfl ?_
  refine J_ishr dX11_differs_144 ?_
  refine J_iconst (v := nI 1) dX11_differs_145 rfl ?_
  refine J_iand dX11_differs_146 ?_
  refine J.callS (n := 5) (As := [.int i1, .int i2, .int i3, .int v2, .int ((i4 >>> (v2 &&& 31)) &&& (nI 1))]) (ctX11_partOf (lx x) (wx x) i1 i2 i3 v2 ((i4 >>> (v2 &&& 31)) &&& (nI 1)) h1) kw_5_34 kw_5_32 kw_5_33 kw_1_1 (by decide +kernel) rfl (by decide) (by simp [rv_cat, cat_I, cat_L, cat_S]) rfl dX11_differs_147 (fun v4 h3 => ?_)
  show J x _ _ 150 _ [.int v4, rv (zx x) a0] h3 _
  refine J_G (fun g5 => ?_)
  refine J.callV (n := 1) (As := [.int v4]) kc_11 (ctX11_grant (lx x) (wx x) a0 v4 h3) kw_4_65 kw_4_62 kw_4_64 kp_1 kw_1_1 (by decide +kernel) rfl (by decide) (Nat.zero_le _) rfl dX11_differs_150 g5 (fun v7 h6 => ?_)
  show J x _ _ 153 _ [.int v7] h6 _
  exact J_iret dX11_differs_153
def X11_differs_B75 (k62 : (Nat → Int32 → Int32 → AH → Option (Int32 × AH))) : Nat → Nat → Int32 → Int32 → Int32 → AH → Option (Int32 × AH)
  | 0, _, _, _, _, _ => none
  | n + 1, a0, i1, i2, i3, h =>
    G (xc h a0 = 11) <|
    G (xc h (xR h a0 1) = 10) <|
    G (xc h (xR h (xR h a0 1) 0) = 0) <|
    if (xI h (xR h (xR h a0 1) 0) 0) ≤ i3 then (
      X11_differs_B160 k62 a0 i1 i2 h
    ) else (
      G (xc h a0 = 11) <|
      G (xc h (xR h a0 9) = 8) <|
      BN (X11_cell_f i2 i3 h) fun v7 h6 =>
      G (xc h6 (xR h (xR h a0 9) 0) = 16) <|
      G (gx v7 (xz h6 (xR h (xR h a0 9) 0))) <|
      LT (xI h6 (xR h (xR h a0 9) 0) v7.toNatClampNeg) fun v10 =>
      G (xc h6 a0 = 11) <|
      G (xc h6 (xR h6 a0 10) = 8) <|
      BN (X11_cell_f i2 i3 h6) fun v14 h13 =>
      G (xc h13 (xR h6 (xR h6 a0 10) 0) = 16) <|
      G (gx v14 (xz h13 (xR h6 (xR h6 a0 10) 0))) <|
      LT (v10 ^^^ (xI h13 (xR h6 (xR h6 a0 10) 0) v14.toNatClampNeg)) fun v17 =>
      if v17 = 0 then (
        LT (i3 + nI 1) fun v18 =>
        X11_differs_B75 k62 n a0 i1 i2 v18 h13
      ) else (
        X11_differs_B127 a0 i1 i2 i3 v10 v17 h13
      )
    )
theorem jX11_differs_B75 (x : CT) (k62 : (Nat → Int32 → Int32 → AH → Option (Int32 × AH))) (hk62 : ∀ (a0 : Nat) (i1 : Int32) (i2 : Int32) (h : AH), J x qX11_differs ZI 62 [(0, rv (zx x) a0), (1, .int i1), (2, .int i2)] [] h (k62 a0 i1 i2 h)) : ∀ (n : Nat) (a0 : Nat) (i1 : Int32) (i2 : Int32) (i3 : Int32) (h : AH), J x qX11_differs ZI 75 [(0, rv (zx x) a0), (1, .int i1), (2, .int i2), (3, .int i3)] [] h (X11_differs_B75 k62 n a0 i1 i2 i3 h) := by
  intro n
  induction n with
  | zero => intro a0 i1 i2 i3 h; exact J_none
  | succ n ih =>
    intro a0 i1 i2 i3 h
    unfold X11_differs_B75
    refine J_iload_n 3 dX11_differs_75 rfl ?_
    refine J_aload_n 0 dX11_differs_76 rv_is rfl ?_
    refine J_G (fun g1 => ?_)
    refine J_getR kc_11 1 (by decide) rfl rfl kw_3_43 dX11_differs_77 g1 ?_
    refine J_G (fun g2 => ?_)
    refine J_getR kc_10 0 (by decide) rfl rfl kw_2_13 dX11_differs_80 g2 ?_
    refine J_G (fun g3 => ?_)
    refine J_getI kc_0 0 (by decide) rfl rfl kw_1_107 dX11_differs_83 g3 ?_
    refine J_icmp_ge (tgt := 160) dX11_differs_86 rfl ?_ ?_
    · exact J_sub [0, 1, 2] rfl (jX11_differs_B160 x k62 hk62 a0 i1 i2 h)
    · refine J_aload_n 0 dX11_differs_89 rv_is rfl ?_
      refine J_G (fun g4 => ?_)
      refine J_getR kc_11 9 (by decide) rfl rfl kw_3_51 dX11_differs_90 g4 ?_
      refine J_G (fun g5 => ?_)
      refine J_getR kc_8 0 (by decide) rfl rfl kw_2_141 dX11_differs_93 g5 ?_
      refine J_iload_n 2 dX11_differs_96 rfl ?_
      refine J_iload_n 3 dX11_differs_97 rfl ?_
      refine J.callS (n := 2) (As := [.int i2, .int i3]) (ctX11_cell (lx x) (wx x) i2 i3 h) kw_4_149 kw_5_27 kw_4_148 kw_1_1 (by decide +kernel) rfl (by decide) (by simp [rv_cat, cat_I, cat_L, cat_S]) rfl dX11_differs_98 (fun v7 h6 => ?_)
      show J x _ _ 101 _ [.int v7, rv (zx x) (xR h (xR h a0 9) 0)] h6 _
      refine J_G (fun g8 => ?_)
      refine J_G (fun g9 => ?_)
      refine J_iald dX11_differs_101 g8 g9 ?_
      refine J_LTi (fun v10 => ?_)
      refine J_istore dX11_differs_102 (by decide) (SD.a (lvr := [(0, rv (zx x) a0), (1, .int i1), (2, .int i2), (3, .int i3)]) [0, 1, 2, 3] rfl rfl) ?_
      refine J_iload 0 dX11_differs_104 rfl ?_
      refine J_aload_n 1 dX11_differs_106 rv_is rfl ?_
      refine J_G (fun g11 => ?_)
      refine J_getR kc_11 10 (by decide) rfl rfl kw_3_52 dX11_differs_107 g11 ?_
      refine J_G (fun g12 => ?_)
      refine J_getR kc_8 0 (by decide) rfl rfl kw_2_141 dX11_differs_110 g12 ?_
      refine J_iload_n 3 dX11_differs_113 rfl ?_
      refine J_iload_n 4 dX11_differs_114 rfl ?_
      refine J.callS (n := 2) (As := [.int i2, .int i3]) (ctX11_cell (lx x) (wx x) i2 i3 h6) kw_4_149 kw_5_27 kw_4_148 kw_1_1 (by decide +kernel) rfl (by decide) (by simp [rv_cat, cat_I, cat_L, cat_S]) rfl dX11_differs_115 (fun v14 h13 => ?_)
      show J x _ _ 118 _ [.int v14, rv (zx x) (xR h6 (xR h6 a0 10) 0), .int v10] h13 _
      refine J_G (fun g15 => ?_)
      refine J_G (fun g16 => ?_)
      refine J_iald dX11_differs_118 g15 g16 ?_
      refine J_ixor dX11_differs_119 ?_
      refine J_LTi (fun v17 => ?_)
      refine J_istore dX11_differs_120 (by decide) (SD.a (lvr := [(4, .int v10), (0, rv (zx x) a0), (1, .int i1), (2, .int i2), (3, .int i3)]) [0, 1, 2, 3, 4] rfl rfl) ?_
      refine J_iload 0 dX11_differs_122 rfl ?_
      refine J_if_eq (tgt := 154) dX11_differs_124 rfl ?_ ?_
      · refine J_iincL (u := i3 + nI 1) 5 dX11_differs_154 rfl rfl (by decide) (SD.a (lvr := [(0, rv (zx x) a0), (1, .int i1), (2, .int i2)]) [2, 3, 4] rfl rfl) (fun v18 => ?_)
        refine J_goto (tgt := 75) dX11_differs_157 rfl ?_
        exact J_sub [1, 2, 3, 0] rfl (ih a0 i1 i2 v18 h13)
      · exact J_sub [2, 3, 4, 5, 1, 0] rfl (jX11_differs_B127 x a0 i1 i2 i3 v10 v17 h13)
def X11_differs_B62 : Nat → Nat → Int32 → Int32 → AH → Option (Int32 × AH)
  | 0, _, _, _, _ => none
  | n + 1, a0, i1, i2, h =>
    G (xc h a0 = 11) <|
    G (xc h (xR h a0 1) = 10) <|
    if (xI h (xR h a0 1) 1) < i2 then (
      X11_differs_B166 a0 h
    ) else (
      X11_differs_B75 (X11_differs_B62 n) FU a0 i1 i2 (nI 0) h
    )
theorem jX11_differs_B62 (x : CT) : ∀ (n : Nat) (a0 : Nat) (i1 : Int32) (i2 : Int32) (h : AH), J x qX11_differs ZI 62 [(0, rv (zx x) a0), (1, .int i1), (2, .int i2)] [] h (X11_differs_B62 n a0 i1 i2 h) := by
  intro n
  induction n with
  | zero => intro a0 i1 i2 h; exact J_none
  | succ n ih =>
    intro a0 i1 i2 h
    unfold X11_differs_B62
    refine J_iload_n 2 dX11_differs_62 rfl ?_
    refine J_aload_n 0 dX11_differs_63 rv_is rfl ?_
    refine J_G (fun g1 => ?_)
    refine J_getR kc_11 1 (by decide) rfl rfl kw_3_43 dX11_differs_64 g1 ?_
    refine J_G (fun g2 => ?_)
    refine J_getI kc_10 1 (by decide) rfl rfl kw_2_22 dX11_differs_67 g2 ?_
    refine J_icmp_gt (tgt := 166) dX11_differs_70 rfl ?_ ?_
    · exact J_sub [0] rfl (jX11_differs_B166 x a0 h)
    · refine J_iconst (v := nI 0) dX11_differs_73 rfl ?_
      refine J_istore_n dX11_differs_74 (by decide) (SD.a (lvr := [(0, rv (zx x) a0), (1, .int i1), (2, .int i2)]) [0, 1, 2] rfl rfl) ?_
      exact J_sub [1, 2, 3, 0] rfl (jX11_differs_B75 x (X11_differs_B62 n) ih FU a0 i1 i2 (nI 0) h)
def X11_differs_f (a0 : Nat) (i1 : Int32) (h : AH) : Option (Int32 × AH) :=
  G (xc h a0 = 11) <|
  if (xI h a0 13) = 0 then (
    X11_differs_B16 a0 h
  ) else (
    if i1 < 0 then (
      X11_differs_B16 a0 h
    ) else (
      if i1 ≤ (nI 3) then (
        G (xc h a0 = 11) <|
        G (xc h (xR h a0 8) = 9) <|
        BN (X9_play_f (xR h a0 8) (xR h a0 1) (xR h a0 3) (xR h a0 9) h) fun _ h4 =>
        G (xc h4 a0 = 11) <|
        G (xc h4 (xR h4 a0 8) = 9) <|
        BN (X9_play_f (xR h4 a0 8) (xR h4 a0 1) (xR h4 a0 4) (xR h4 a0 10) h4) fun _ h7 =>
        X11_differs_B62 FU a0 i1 (nI 0) h7
      ) else (
        X11_differs_B16 a0 h
      )
    )
  )
theorem jX11_differs (x : CT) (a0 : Nat) (i1 : Int32) (h : AH) : J x qX11_differs ZI 0 [(0, rv (zx x) a0), (1, .int i1)] [] h (X11_differs_f a0 i1 h) := by
  unfold X11_differs_f
  refine J_aload_n 0 dX11_differs_0 rv_is rfl ?_
  refine J_G (fun g1 => ?_)
  refine J_getI kc_11 13 (by decide) rfl rfl kw_3_55 dX11_differs_1 g1 ?_
  refine J_if_eq (tgt := 16) dX11_differs_4 rfl ?_ ?_
  · exact J_sub [0] rfl (jX11_differs_B16 x a0 h)
  · refine J_iload_n 1 dX11_differs_7 rfl ?_
    refine J_if_lt (tgt := 16) dX11_differs_8 rfl ?_ ?_
    · exact J_sub [0] rfl (jX11_differs_B16 x a0 h)
    · refine J_iload_n 1 dX11_differs_11 rfl ?_
      refine J_iconst (v := nI 3) dX11_differs_12 rfl ?_
      refine J_icmp_le (tgt := 22) dX11_differs_13 rfl ?_ ?_
      · refine J_aload_n 0 dX11_differs_22 rv_is rfl ?_
        refine J_G (fun g2 => ?_)
        refine J_getR kc_11 8 (by decide) rfl rfl kw_3_50 dX11_differs_23 g2 ?_
        refine J_aload_n 0 dX11_differs_26 rv_is rfl ?_
        refine J_getR kc_11 1 (by decide) rfl rfl kw_3_43 dX11_differs_27 g2 ?_
        refine J_aload_n 0 dX11_differs_30 rv_is rfl ?_
        refine J_getR kc_11 3 (by decide) rfl rfl kw_3_45 dX11_differs_31 g2 ?_
        refine J_aload_n 0 dX11_differs_34 rv_is rfl ?_
        refine J_getR kc_11 9 (by decide) rfl rfl kw_3_51 dX11_differs_35 g2 ?_
        refine J_G (fun g3 => ?_)
        refine J.callV (n := 3) (As := [rv (zx x) (xR h a0 1), rv (zx x) (xR h a0 3), rv (zx x) (xR h a0 9)]) kc_9 (ctX9_play (lx x) (wx x) (xR h a0 8) (xR h a0 1) (xR h a0 3) (xR h a0 9) h) kw_4_116 kw_4_113 kw_4_114 kw_4_115 kw_1_7 (by decide +kernel) rfl (by decide) (Nat.zero_le _) rfl dX11_differs_38 g3 (fun _ h4 => ?_)
        show J x _ _ 41 _ [] h4 _
        refine J_aload_n 0 dX11_differs_41 rv_is rfl ?_
        refine J_G (fun g5 => ?_)
        refine J_getR kc_11 8 (by decide) rfl rfl kw_3_50 dX11_differs_42 g5 ?_
        refine J_aload_n 0 dX11_differs_45 rv_is rfl ?_
        refine J_getR kc_11 1 (by decide) rfl rfl kw_3_43 dX11_differs_46 g5 ?_
        refine J_aload_n 0 dX11_differs_49 rv_is rfl ?_
        refine J_getR kc_11 4 (by decide) rfl rfl kw_3_46 dX11_differs_50 g5 ?_
        refine J_aload_n 0 dX11_differs_53 rv_is rfl ?_
        refine J_getR kc_11 10 (by decide) rfl rfl kw_3_52 dX11_differs_54 g5 ?_
        refine J_G (fun g6 => ?_)
        refine J.callV (n := 3) (As := [rv (zx x) (xR h4 a0 1), rv (zx x) (xR h4 a0 4), rv (zx x) (xR h4 a0 10)]) kc_9 (ctX9_play (lx x) (wx x) (xR h4 a0 8) (xR h4 a0 1) (xR h4 a0 4) (xR h4 a0 10) h4) kw_4_116 kw_4_113 kw_4_114 kw_4_115 kw_1_7 (by decide +kernel) rfl (by decide) (Nat.zero_le _) rfl dX11_differs_57 g6 (fun _ h7 => ?_)
        show J x _ _ 60 _ [] h7 _
        refine J_iconst (v := nI 0) dX11_differs_60 rfl ?_
        refine J_istore_n dX11_differs_61 (by decide) (SD.a (lvr := [(0, rv (zx x) a0), (1, .int i1)]) [0, 1] rfl rfl) ?_
        exact J_sub [1, 2, 0] rfl (jX11_differs_B62 x FU a0 i1 (nI 0) h7)
      · exact J_sub [0] rfl (jX11_differs_B16 x a0 h)
theorem ctX11_differs (l : Launch) (w : WT) (a0 : Nat) (i1 : Int32) (h : AH) : CM l w yX11_differs cX11_differs 7 (some .int) 5 135 KI [rv (w.1) a0, .int i1] h (X11_differs_f a0 i1 h) :=
  CM.of (by decide +kernel) (by simp [lg_sl, rv_cat, cat_I, cat_L, cat_S]) (lv := [(0, rv (w.1) a0), (1, .int i1)]) (by simp [lv_args, rv_cat, cat_I, cat_L, cat_S]) (fun x hx => by subst hx; exact jX11_differs x a0 i1 h)
-- FallTrials.exact()I
abbrev qX11_exact : MT := (cX11_exact, RX11, "exact", (some .int), 5, 137, 1)
def X11_exact_f (a0 : Nat) (h : AH) : Option (Int32 × AH) :=
  G (xc h a0 = 11) <|
  if (xI h a0 13) = 0 then (
    G (xc h a0 = 11) <|
    BN (X11_refuse_f a0 (nI 1) h) fun v19 h18 =>
    some (v19, h18)
  ) else (
    G (xc h a0 = 11) <|
    G (xc h (xR h a0 8) = 9) <|
    G (xc h (xR h (xR h a0 8) 0) = 5) <|
    BN (X5_isTooMuch_f (xR h (xR h a0 8) 0) (xR h a0 1) h) fun v6 h5 =>
    if v6 = 0 then (
      G (xc h5 a0 = 11) <|
      G (xc h5 (xR h5 a0 8) = 9) <|
      BN (X9_runAll_f (xR h5 a0 8) (xR h5 a0 1) h5) fun v10 h9 =>
      G (xc h9 a0 = 11) <|
      BN (X11_grant_f a0 v10 h9) fun v13 h12 =>
      some (v13, h12)
    ) else (
      G (xc h5 a0 = 11) <|
      BN (X11_refuse_f a0 (nI 5) h5) fun v16 h15 =>
      some (v16, h15)
    )
  )
theorem jX11_exact (x : CT) (a0 : Nat) (h : AH) : J x qX11_exact ZI 0 [(0, rv (zx x) a0)] [] h (X11_exact_f a0 h) := by
  unfold X11_exact_f
  refine J_aload_n 0 dX11_exact_0 rv_is rfl ?_
  refine J_G (fun g1 => ?_)
  refine J_getI kc_11 13 (by decide) rfl rfl kw_3_55 dX11_exact_1 g1 ?_
  refine J_if_ne (tgt := 13) dX11_exact_4 rfl ?_ ?_
  · refine J_aload_n 0 dX11_exact_13 rv_is rfl ?_
    refine J_G (fun g2 => ?_)
    refine J_getR kc_11 8 (by decide) rfl rfl kw_3_50 dX11_exact_14 g2 ?_
    refine J_G (fun g3 => ?_)
    refine J_getR kc_9 0 (by decide) rfl rfl kw_2_234 dX11_exact_17 g3 ?_
    refine J_aload_n 0 dX11_exact_20 rv_is rfl ?_
    refine J_getR kc_11 1 (by decide) rfl rfl kw_3_43 dX11_exact_21 g2 ?_
    refine J_G (fun g4 => ?_)
    refine J.callV (n := 1) (As := [rv (zx x) (xR h a0 1)]) kc_5 (ctX5_isTooMuch (lx x) (wx x) (xR h (xR h a0 8) 0) (xR h a0 1) h) kw_5_101 kw_5_98 kw_5_99 kw_5_100 kw_1_8 (by decide +kernel) rfl (by decide) (Nat.zero_le _) rfl dX11_exact_24 g4 (fun v6 h5 => ?_)
    show J x _ _ 27 _ [.int v6] h5 _
    refine J_if_eq (tgt := 36) dX11_exact_27 rfl ?_ ?_
    · refine J_aload_n 0 dX11_exact_36 rv_is rfl ?_
      refine J_aload_n 0 dX11_exact_37 rv_is rfl ?_
      refine J_G (fun g7 => ?_)
      refine J_getR kc_11 8 (by decide) rfl rfl kw_3_50 dX11_exact_38 g7 ?_
      refine J_aload_n 0 dX11_exact_41 rv_is rfl ?_
      refine J_getR kc_11 1 (by decide) rfl rfl kw_3_43 dX11_exact_42 g7 ?_
      refine J_G (fun g8 => ?_)
      refine J.callV (n := 1) (As := [rv (zx x) (xR h5 a0 1)]) kc_9 (ctX9_runAll (lx x) (wx x) (xR h5 a0 8) (xR h5 a0 1) h5) kw_5_185 kw_5_182 kw_5_183 kw_5_184 kw_1_7 (by decide +kernel) rfl (by decide) (by simp [rv_cat, cat_I, cat_L, cat_S]) rfl dX11_exact_45 g8 (fun v10 h9 => ?_)
      show J x _ _ 48 _ [.int v10, rv (zx x) a0] h9 _
      refine J_G (fun g11 => ?_)
      refine J.callV (n := 1) (As := [.int v10]) kc_11 (ctX11_grant (lx x) (wx x) a0 v10 h9) kw_4_65 kw_4_62 kw_4_64 kp_1 kw_1_1 (by decide +kernel) rfl (by decide) (Nat.zero_le _) rfl dX11_exact_48 g11 (fun v13 h12 => ?_)
      show J x _ _ 51 _ [.int v13] h12 _
      exact J_iret dX11_exact_51
    · refine J_aload_n 0 dX11_exact_30 rv_is rfl ?_
      refine J_iconst (v := nI 5) dX11_exact_31 rfl ?_
      refine J_G (fun g14 => ?_)
      refine J.callV (n := 1) (As := [.int (nI 5)]) kc_11 (ctX11_refuse (lx x) (wx x) a0 (nI 5) h5) kw_3_112 kw_3_109 kw_3_111 kp_0 kw_1_1 (by decide +kernel) rfl (by decide) (Nat.zero_le _) rfl dX11_exact_32 g14 (fun v16 h15 => ?_)
      show J x _ _ 35 _ [.int v16] h15 _
      exact J_iret dX11_exact_35
  · refine J_aload_n 0 dX11_exact_7 rv_is rfl ?_
    refine J_iconst (v := nI 1) dX11_exact_8 rfl ?_
    refine J_G (fun g17 => ?_)
    refine J.callV (n := 1) (As := [.int (nI 1)]) kc_11 (ctX11_refuse (lx x) (wx x) a0 (nI 1) h) kw_3_112 kw_3_109 kw_3_111 kp_0 kw_1_1 (by decide +kernel) rfl (by decide) (Nat.zero_le _) rfl dX11_exact_9 g17 (fun v19 h18 => ?_)
    show J x _ _ 12 _ [.int v19] h18 _
    exact J_iret dX11_exact_12
theorem ctX11_exact (l : Launch) (w : WT) (a0 : Nat) (h : AH) : CM l w yX11_exact cX11_exact 1 (some .int) 5 137 KI [rv (w.1) a0] h (X11_exact_f a0 h) :=
  CM.of (by decide +kernel) (by simp [lg_sl, rv_cat, cat_I, cat_L, cat_S]) (lv := [(0, rv (w.1) a0)]) (by simp [lv_args, rv_cat, cat_I, cat_L, cat_S]) (fun x hx => by subst hx; exact jX11_exact x a0 h)
-- FallTrials.isBroken(LFallTrials$Works;LFallTrials$Numbers;)Z
abbrev qX11_isBroken : MT := (cX11_isBroken, RX11, "isBroken", (some .boolean), 5, 135, 3)
def X11_isBroken_f (a0 : Nat) (a1 : Nat) (a2 : Nat) (h : AH) : Option (Int32 × AH) :=
  G (xc h a0 = 11) <|
  G (xc h (xR h a0 8) = 9) <|
  BN (X9_play_f (xR h a0 8) a1 a2 (xR h a0 9) h) fun _ h3 =>
  G (xc h3 a0 = 11) <|
  G (xc h3 (xR h3 a0 9) = 8) <|
  if (xI h3 (xR h3 a0 9) 6) = (nI 2) then (
    some (nI 1, h3)
  ) else (
    some (nI 0, h3)
  )
theorem jX11_isBroken (x : CT) (a0 : Nat) (a1 : Nat) (a2 : Nat) (h : AH) : J x qX11_isBroken ZI 0 [(0, rv (zx x) a0), (1, rv (zx x) a1), (2, rv (zx x) a2)] [] h (X11_isBroken_f a0 a1 a2 h) := by
  unfold X11_isBroken_f
  refine J_aload_n 0 dX11_isBroken_0 rv_is rfl ?_
  refine J_G (fun g1 => ?_)
  refine J_getR kc_11 8 (by decide) rfl rfl kw_3_50 dX11_isBroken_1 g1 ?_
  refine J_aload_n 1 dX11_isBroken_4 rv_is rfl ?_
  refine J_aload_n 2 dX11_isBroken_5 rv_is rfl ?_
  refine J_aload_n 0 dX11_isBroken_6 rv_is rfl ?_
  refine J_getR kc_11 9 (by decide) rfl rfl kw_3_51 dX11_isBroken_7 g1 ?_
  refine J_G (fun g2 => ?_)
  refine J.callV (n := 3) (As := [rv (zx x) a1, rv (zx x) a2, rv (zx x) (xR h a0 9)]) kc_9 (ctX9_play (lx x) (wx x) (xR h a0 8) a1 a2 (xR h a0 9) h) kw_4_116 kw_4_113 kw_4_114 kw_4_115 kw_1_7 (by decide +kernel) rfl (by decide) (Nat.zero_le _) rfl dX11_isBroken_10 g2 (fun _ h3 => ?_)
  show J x _ _ 13 _ [] h3 _
  refine J_aload_n 0 dX11_isBroken_13 rv_is rfl ?_
  refine J_G (fun g4 => ?_)
  refine J_getR kc_11 9 (by decide) rfl rfl kw_3_51 dX11_isBroken_14 g4 ?_
  refine J_G (fun g5 => ?_)
  refine J_getI kc_8 6 (by decide) rfl rfl kw_2_152 dX11_isBroken_17 g5 ?_
  refine J_iconst (v := nI 2) dX11_isBroken_20 rfl ?_
  refine J_icmp_ne (tgt := 28) dX11_isBroken_21 rfl ?_ ?_
  · refine J_iconst (v := nI 0) dX11_isBroken_28 rfl ?_
    exact J_zret dX11_isBroken_29 (by decide)
  · refine J_iconst (v := nI 1) dX11_isBroken_24 rfl ?_
    refine J_goto (tgt := 29) dX11_isBroken_25 rfl ?_
    exact J_zret dX11_isBroken_29 (by decide)
theorem ctX11_isBroken (l : Launch) (w : WT) (a0 : Nat) (a1 : Nat) (a2 : Nat) (h : AH) : CM l w yX11_isBroken cX11_isBroken 3 (some .boolean) 5 135 KI [rv (w.1) a0, rv (w.1) a1, rv (w.1) a2] h (X11_isBroken_f a0 a1 a2 h) :=
  CM.of (by decide +kernel) (by simp [lg_sl, rv_cat, cat_I, cat_L, cat_S]) (lv := [(0, rv (w.1) a0), (1, rv (w.1) a1), (2, rv (w.1) a2)]) (by simp [lv_args, rv_cat, cat_I, cat_L, cat_S]) (fun x hx => by subst hx; exact jX11_isBroken x a0 a1 a2 h)
-- FallTrials.isFit(I)Z
abbrev qX11_isFit : MT := (cX11_isFit, RX11, "isFit", (some .boolean), 6, 157, 3)
def X11_isFit_B53 : Nat → Nat → Int32 → AH → Option (Int32 × AH)
  | 0, _, _, _ => none
  | n + 1, a0, i2, h =>
    G (xc h a0 = 11) <|
    if (xI h a0 14) ≤ i2 then (
      some (nI 1, h)
    ) else (
      G (xc h a0 = 11) <|
      G (xc h (xR h a0 7) = 21) <|
      G (gx i2 (xz h (xR h a0 7))) <|
      BN (X11_isBroken_f a0 (xR h a0 2) (xR h (xR h a0 7) i2.toNatClampNeg) h) fun v6 h5 =>
      if v6 = 0 then (
        LT (i2 + nI 1) fun v7 =>
        X11_isFit_B53 n a0 v7 h5
      ) else (
        some (nI 0, h5)
      )
    )
theorem jX11_isFit_B53 (x : CT) : ∀ (n : Nat) (a0 : Nat) (i2 : Int32) (h : AH), J x qX11_isFit ZI 53 [(0, rv (zx x) a0), (2, .int i2)] [] h (X11_isFit_B53 n a0 i2 h) := by
  intro n
  induction n with
  | zero => intro a0 i2 h; exact J_none
  | succ n ih =>
    intro a0 i2 h
    unfold X11_isFit_B53
    refine J_iload_n 1 dX11_isFit_53 rfl ?_
    refine J_aload_n 0 dX11_isFit_54 rv_is rfl ?_
    refine J_G (fun g1 => ?_)
    refine J_getI kc_11 14 (by decide) rfl rfl kw_3_56 dX11_isFit_55 g1 ?_
    refine J_icmp_ge (tgt := 86) dX11_isFit_58 rfl ?_ ?_
    · refine J_iconst (v := nI 1) dX11_isFit_86 rfl ?_
      exact J_zret dX11_isFit_87 (by decide)
    · refine J_aload_n 0 dX11_isFit_61 rv_is rfl ?_
      refine J_aload_n 0 dX11_isFit_62 rv_is rfl ?_
      refine J_G (fun g2 => ?_)
      refine J_getR kc_11 2 (by decide) rfl rfl kw_3_44 dX11_isFit_63 g2 ?_
      refine J_aload_n 0 dX11_isFit_66 rv_is rfl ?_
      refine J_getR kc_11 7 (by decide) rfl rfl kw_3_49 dX11_isFit_67 g2 ?_
      refine J_iload_n 1 dX11_isFit_70 rfl ?_
      refine J_G (fun g3 => ?_)
      refine J_G (fun g4 => ?_)
      refine J_aald (t := 21) (t0 := 5) (Cn := RX4) (by decide) (by decide) (fun _ => rfl) dX11_isFit_71 g3 g4 ?_
      refine J.callV (n := 2) (As := [rv (zx x) (xR h a0 2), rv (zx x) (xR h (xR h a0 7) i2.toNatClampNeg)]) kc_11 (ctX11_isBroken (lx x) (wx x) a0 (xR h a0 2) (xR h (xR h a0 7) i2.toNatClampNeg) h) kw_5_207 kw_5_204 kw_5_206 kp_3 kw_1_1 (by decide +kernel) rfl (by decide) (Nat.zero_le _) rfl dX11_isFit_72 g2 (fun v6 h5 => ?_)
      show J x _ _ 75 _ [.int v6] h5 _
      refine J_if_eq (tgt := 80) dX11_isFit_75 rfl ?_ ?_
      · refine J_iincL (u := i2 + nI 1) 1 dX11_isFit_80 rfl rfl (by decide) (SD.a (lvr := [(0, rv (zx x) a0)]) [0] rfl rfl) (fun v7 => ?_)
        refine J_goto (tgt := 53) dX11_isFit_83 rfl ?_
        exact J_sub [1, 0] rfl (ih a0 v7 h5)
      · refine J_iconst (v := nI 0) dX11_isFit_78 rfl ?_
        exact J_zret dX11_isFit_79 (by decide)
def X11_isFit_f (a0 : Nat) (i1 : Int32) (h : AH) : Option (Int32 × AH) :=
  G (xc h a0 = 11) <|
  G (xc h (xR h a0 2) = 10) <|
  BN (X10_copy_f (xR h a0 2) (xR h a0 1) h) fun _ h3 =>
  G (xc h3 a0 = 11) <|
  BN (X11_mendAll_f a0 (xR h3 a0 2) i1 h3) fun _ h5 =>
  G (xc h5 a0 = 11) <|
  G (xc h5 (xR h5 a0 8) = 9) <|
  BN (X9_play_f (xR h5 a0 8) (xR h5 a0 2) (xR h5 a0 4) (xR h5 a0 10) h5) fun _ h8 =>
  G (xc h8 a0 = 11) <|
  G (xc h8 (xR h8 a0 10) = 8) <|
  if (xI h8 (xR h8 a0 10) 6) = 0 then (
    X11_isFit_B53 FU a0 (nI 0) h8
  ) else (
    some (nI 0, h8)
  )
theorem jX11_isFit (x : CT) (a0 : Nat) (i1 : Int32) (h : AH) : J x qX11_isFit ZI 0 [(0, rv (zx x) a0), (1, .int i1)] [] h (X11_isFit_f a0 i1 h) := by
  unfold X11_isFit_f
  refine J_aload_n 0 dX11_isFit_0 rv_is rfl ?_
  refine J_G (fun g1 => ?_)
  refine J_getR kc_11 2 (by decide) rfl rfl kw_3_44 dX11_isFit_1 g1 ?_
  refine J_aload_n 0 dX11_isFit_4 rv_is rfl ?_
  refine J_getR kc_11 1 (by decide) rfl rfl kw_3_43 dX11_isFit_5 g1 ?_
  refine J_G (fun g2 => ?_)
  refine J.callV (n := 1) (As := [rv (zx x) (xR h a0 1)]) kc_10 (ctX10_copy (lx x) (wx x) (xR h a0 2) (xR h a0 1) h) kw_5_228 kw_5_225 kw_5_226 kw_5_227 kw_1_5 (by decide +kernel) rfl (by decide) (Nat.zero_le _) rfl dX11_isFit_8 g2 (fun _ h3 => ?_)
  show J x _ _ 11 _ [] h3 _
  refine J_aload_n 0 dX11_isFit_11 rv_is rfl ?_
  refine J_aload_n 0 dX11_isFit_12 rv_is rfl ?_
  refine J_G (fun g4 => ?_)
  refine J_getR kc_11 2 (by decide) rfl rfl kw_3_44 dX11_isFit_13 g4 ?_
  refine J_iload_n 1 dX11_isFit_16 rfl ?_
  refine J.callV (n := 2) (As := [rv (zx x) (xR h3 a0 2), .int i1]) kc_11 (ctX11_mendAll (lx x) (wx x) a0 (xR h3 a0 2) i1 h3) kw_6_25 kw_6_22 kw_6_24 kp_6 kw_1_1 (by decide +kernel) rfl (by decide) (Nat.zero_le _) rfl dX11_isFit_17 g4 (fun _ h5 => ?_)
  show J x _ _ 20 _ [] h5 _
  refine J_aload_n 0 dX11_isFit_20 rv_is rfl ?_
  refine J_G (fun g6 => ?_)
  refine J_getR kc_11 8 (by decide) rfl rfl kw_3_50 dX11_isFit_21 g6 ?_
  refine J_aload_n 0 dX11_isFit_24 rv_is rfl ?_
  refine J_getR kc_11 2 (by decide) rfl rfl kw_3_44 dX11_isFit_25 g6 ?_
  refine J_aload_n 0 dX11_isFit_28 rv_is rfl ?_
  refine J_getR kc_11 4 (by decide) rfl rfl kw_3_46 dX11_isFit_29 g6 ?_
  refine J_aload_n 0 dX11_isFit_32 rv_is rfl ?_
  refine J_getR kc_11 10 (by decide) rfl rfl kw_3_52 dX11_isFit_33 g6 ?_
  refine J_G (fun g7 => ?_)
  refine J.callV (n := 3) (As := [rv (zx x) (xR h5 a0 2), rv (zx x) (xR h5 a0 4), rv (zx x) (xR h5 a0 10)]) kc_9 (ctX9_play (lx x) (wx x) (xR h5 a0 8) (xR h5 a0 2) (xR h5 a0 4) (xR h5 a0 10) h5) kw_4_116 kw_4_113 kw_4_114 kw_4_115 kw_1_7 (by decide +kernel) rfl (by decide) (Nat.zero_le _) rfl dX11_isFit_36 g7 (fun _ h8 => ?_)
  show J x _ _ 39 _ [] h8 _
  refine J_aload_n 0 dX11_isFit_39 rv_is rfl ?_
  refine J_G (fun g9 => ?_)
  refine J_getR kc_11 10 (by decide) rfl rfl kw_3_52 dX11_isFit_40 g9 ?_
  refine J_G (fun g10 => ?_)
  refine J_getI kc_8 6 (by decide) rfl rfl kw_2_152 dX11_isFit_43 g10 ?_
  refine J_if_eq (tgt := 51) dX11_isFit_46 rfl ?_ ?_
  · refine J_iconst (v := nI 0) dX11_isFit_51 rfl ?_
    refine J_istore_n dX11_isFit_52 (by decide) (SD.a (lvr := [(0, rv (zx x) a0)]) [0] rfl rfl) ?_
    exact J_sub [1, 0] rfl (jX11_isFit_B53 x FU a0 (nI 0) h8)
  · refine J_iconst (v := nI 0) dX11_isFit_49 rfl ?_
    exact J_zret dX11_isFit_50 (by decide)
theorem ctX11_isFit (l : Launch) (w : WT) (a0 : Nat) (i1 : Int32) (h : AH) : CM l w yX11_isFit cX11_isFit 3 (some .boolean) 6 157 KI [rv (w.1) a0, .int i1] h (X11_isFit_f a0 i1 h) :=
  CM.of (by decide +kernel) (by simp [lg_sl, rv_cat, cat_I, cat_L, cat_S]) (lv := [(0, rv (w.1) a0), (1, .int i1)]) (by simp [lv_args, rv_cat, cat_I, cat_L, cat_S]) (fun x hx => by subst hx; exact jX11_isFit x a0 i1 h)
-- FallTrials.least()I
abbrev qX11_least : MT := (cX11_least, RX11, "least", (some .int), 7, 179, 3)
def X11_least_B75 (a0 : Nat) (h : AH) : Option (Int32 × AH) :=
  G (xc h a0 = 11) <|
  BN (X11_refuse_f a0 (nI 6) h) fun v3 h2 =>
  some (v3, h2)
theorem jX11_least_B75 (x : CT) (a0 : Nat) (h : AH) : J x qX11_least ZI 75 [(0, rv (zx x) a0)] [] h (X11_least_B75 a0 h) := by
  unfold X11_least_B75
  refine J_aload_n 0 dX11_least_75 rv_is rfl ?_
  refine J_bipush (v := nI 6) dX11_least_76 rfl ?_
  refine J_G (fun g1 => ?_)
  refine J.callV (n := 1) (As := [.int (nI 6)]) kc_11 (ctX11_refuse (lx x) (wx x) a0 (nI 6) h) kw_3_112 kw_3_109 kw_3_111 kp_0 kw_1_1 (by decide +kernel) rfl (by decide) (Nat.zero_le _) rfl dX11_least_78 g1 (fun v3 h2 => ?_)
  show J x _ _ 81 _ [.int v3] h2 _
  exact J_iret dX11_least_81
def X11_least_B69 (k15 : (Nat → Int32 → AH → Option (Int32 × AH))) (a0 : Nat) (i1 : Int32) (h : AH) : Option (Int32 × AH) :=
  LT (i1 + nI 1) fun v1 =>
  k15 a0 v1 h
theorem jX11_least_B69 (x : CT) (k15 : (Nat → Int32 → AH → Option (Int32 × AH))) (hk15 : ∀ (a0 : Nat) (i1 : Int32) (h : AH), J x qX11_least ZI 15 [(0, rv (zx x) a0), (1, .int i1)] [] h (k15 a0 i1 h)) (a0 : Nat) (i1 : Int32) (h : AH) : J x qX11_least ZI 69 [(0, rv (zx x) a0), (1, .int i1)] [] h (X11_least_B69 k15 a0 i1 h) := by
  unfold X11_least_B69
  refine J_iincL (u := i1 + nI 1) 1 dX11_least_69 rfl rfl (by decide) (SD.c (lvr := [(0, rv (zx x) a0)]) [0] rfl rfl 0 rfl rfl rv_cat) (fun v1 => ?_)
  refine J_goto (tgt := 15) dX11_least_72 rfl ?_
  exact J_sub [1, 0] rfl (hk15 a0 v1 h)
def X11_least_B63 (k15 : (Nat → Int32 → AH → Option (Int32 × AH))) (k28 : (Nat → Int32 → Int32 → AH → Option (Int32 × AH))) (a0 : Nat) (i1 : Int32) (i2 : Int32) (h : AH) : Option (Int32 × AH) :=
  LT (i2 + nI 1) fun v1 =>
  k28 a0 i1 v1 h
theorem jX11_least_B63 (x : CT) (k15 : (Nat → Int32 → AH → Option (Int32 × AH))) (hk15 : ∀ (a0 : Nat) (i1 : Int32) (h : AH), J x qX11_least ZI 15 [(0, rv (zx x) a0), (1, .int i1)] [] h (k15 a0 i1 h)) (k28 : (Nat → Int32 → Int32 → AH → Option (Int32 × AH))) (hk28 : ∀ (a0 : Nat) (i1 : Int32) (i2 : Int32) (h : AH), J x qX11_least ZI 28 [(0, rv (zx x) a0), (1, .int i1), (2, .int i2)] [] h (k28 a0 i1 i2 h)) (a0 : Nat) (i1 : Int32) (i2 : Int32) (h : AH) : J x qX11_least ZI 63 [(0, rv (zx x) a0), (1, .int i1), (2, .int i2)] [] h (X11_least_B63 k15 k28 a0 i1 i2 h) := by
  unfold X11_least_B63
  refine J_iincL (u := i2 + nI 1) 2 dX11_least_63 rfl rfl (by decide) (SD.a (lvr := [(0, rv (zx x) a0), (1, .int i1)]) [0, 1] rfl rfl) (fun v1 => ?_)
  refine J_goto (tgt := 28) dX11_least_66 rfl ?_
  exact J_sub [1, 2, 0] rfl (hk28 a0 i1 v1 h)
def X11_least_B57 (a0 : Nat) (i2 : Int32) (h : AH) : Option (Int32 × AH) :=
  G (xc h a0 = 11) <|
  BN (X11_grant_f a0 i2 h) fun v3 h2 =>
  some (v3, h2)
theorem jX11_least_B57 (x : CT) (a0 : Nat) (i2 : Int32) (h : AH) : J x qX11_least ZI 57 [(0, rv (zx x) a0), (2, .int i2)] [] h (X11_least_B57 a0 i2 h) := by
  unfold X11_least_B57
  refine J_aload_n 0 dX11_least_57 rv_is rfl ?_
  refine J_iload_n 1 dX11_least_58 rfl ?_
  refine J_G (fun g1 => ?_)
  refine J.callV (n := 1) (As := [.int i2]) kc_11 (ctX11_grant (lx x) (wx x) a0 i2 h) kw_4_65 kw_4_62 kw_4_64 kp_1 kw_1_1 (by decide +kernel) rfl (by decide) (Nat.zero_le _) rfl dX11_least_59 g1 (fun v3 h2 => ?_)
  show J x _ _ 62 _ [.int v3] h2 _
  exact J_iret dX11_least_62
def X11_least_B28 (k15 : (Nat → Int32 → AH → Option (Int32 × AH))) : Nat → Nat → Int32 → Int32 → AH → Option (Int32 × AH)
  | 0, _, _, _, _ => none
  | n + 1, a0, i1, i2, h =>
    G (xc h a0 = 11) <|
    G (xc h (xR h a0 6) = 4) <|
    if ((nI 1) <<< ((xI h (xR h a0 6) 1) &&& 31)) ≤ i2 then (
      X11_least_B69 k15 a0 i1 h
    ) else (
      BN (J6_bitCount_0f7a4_f i2 h) fun v4 h3 =>
      if v4 = i1 then (
        G (xc h3 a0 = 11) <|
        BN (X11_isFit_f a0 i2 h3) fun v7 h6 =>
        if v7 = 0 then (
          X11_least_B63 k15 (X11_least_B28 k15 n) a0 i1 i2 h6
        ) else (
          X11_least_B57 a0 i2 h6
        )
      ) else (
        X11_least_B63 k15 (X11_least_B28 k15 n) a0 i1 i2 h3
      )
    )
theorem jX11_least_B28 (x : CT) (k15 : (Nat → Int32 → AH → Option (Int32 × AH))) (hk15 : ∀ (a0 : Nat) (i1 : Int32) (h : AH), J x qX11_least ZI 15 [(0, rv (zx x) a0), (1, .int i1)] [] h (k15 a0 i1 h)) : ∀ (n : Nat) (a0 : Nat) (i1 : Int32) (i2 : Int32) (h : AH), J x qX11_least ZI 28 [(0, rv (zx x) a0), (1, .int i1), (2, .int i2)] [] h (X11_least_B28 k15 n a0 i1 i2 h) := by
  intro n
  induction n with
  | zero => intro a0 i1 i2 h; exact J_none
  | succ n ih =>
    intro a0 i1 i2 h
    unfold X11_least_B28
    refine J_iload_n 2 dX11_least_28 rfl ?_
    refine J_iconst (v := nI 1) dX11_least_29 rfl ?_
    refine J_aload_n 0 dX11_least_30 rv_is rfl ?_
    refine J_G (fun g1 => ?_)
    refine J_getR kc_11 6 (by decide) rfl rfl kw_3_48 dX11_least_31 g1 ?_
    refine J_G (fun g2 => ?_)
    refine J_getI kc_4 1 (by decide) rfl rfl kw_2_58 dX11_least_34 g2 ?_
    refine J_ishl dX11_least_37 ?_
    refine J_icmp_ge (tgt := 69) dX11_least_38 rfl ?_ ?_
    · exact J_sub [0, 1] rfl (jX11_least_B69 x k15 hk15 a0 i1 h)
    · refine J_iload_n 2 dX11_least_41 rfl ?_
      refine J.callS (n := 1) (As := [.int i2]) (ctJ6_bitCount_0f7a4 (lx x) (wx x) i2 h) kw_6_36 kw_6_34 kw_6_35 kw_1_27 (by decide +kernel) rfl (by decide) (Nat.zero_le _) rfl dX11_least_42 (fun v4 h3 => ?_)
      show J x _ _ 45 _ [.int v4] h3 _
      refine J_iload_n 1 dX11_least_45 rfl ?_
      refine J_icmp_ne (tgt := 63) dX11_least_46 rfl ?_ ?_
      · exact (jX11_least_B63 x k15 hk15 (X11_least_B28 k15 n) ih a0 i1 i2 h3)
      · refine J_aload_n 0 dX11_least_49 rv_is rfl ?_
        refine J_iload_n 2 dX11_least_50 rfl ?_
        refine J_G (fun g5 => ?_)
        refine J.callV (n := 1) (As := [.int i2]) kc_11 (ctX11_isFit (lx x) (wx x) a0 i2 h3) kw_6_21 kw_6_18 kw_6_20 kp_5 kw_1_1 (by decide +kernel) rfl (by decide) (Nat.zero_le _) rfl dX11_least_51 g5 (fun v7 h6 => ?_)
        show J x _ _ 54 _ [.int v7] h6 _
        refine J_if_eq (tgt := 63) dX11_least_54 rfl ?_ ?_
        · exact (jX11_least_B63 x k15 hk15 (X11_least_B28 k15 n) ih a0 i1 i2 h6)
        · exact J_sub [0, 2] rfl (jX11_least_B57 x a0 i2 h6)
def X11_least_B15 : Nat → Nat → Int32 → AH → Option (Int32 × AH)
  | 0, _, _, _ => none
  | n + 1, a0, i1, h =>
    G (xc h a0 = 11) <|
    G (xc h (xR h a0 6) = 4) <|
    if (xI h (xR h a0 6) 1) < i1 then (
      X11_least_B75 a0 h
    ) else (
      X11_least_B28 (X11_least_B15 n) FU a0 i1 (nI 0) h
    )
theorem jX11_least_B15 (x : CT) : ∀ (n : Nat) (a0 : Nat) (i1 : Int32) (h : AH), J x qX11_least ZI 15 [(0, rv (zx x) a0), (1, .int i1)] [] h (X11_least_B15 n a0 i1 h) := by
  intro n
  induction n with
  | zero => intro a0 i1 h; exact J_none
  | succ n ih =>
    intro a0 i1 h
    unfold X11_least_B15
    refine J_iload_n 1 dX11_least_15 rfl ?_
    refine J_aload_n 0 dX11_least_16 rv_is rfl ?_
    refine J_G (fun g1 => ?_)
    refine J_getR kc_11 6 (by decide) rfl rfl kw_3_48 dX11_least_17 g1 ?_
    refine J_G (fun g2 => ?_)
    refine J_getI kc_4 1 (by decide) rfl rfl kw_2_58 dX11_least_20 g2 ?_
    refine J_icmp_gt (tgt := 75) dX11_least_23 rfl ?_ ?_
    · exact J_sub [0] rfl (jX11_least_B75 x a0 h)
    · refine J_iconst (v := nI 0) dX11_least_26 rfl ?_
      refine J_istore_n dX11_least_27 (by decide) (SD.a (lvr := [(0, rv (zx x) a0), (1, .int i1)]) [0, 1] rfl rfl) ?_
      exact J_sub [1, 2, 0] rfl (jX11_least_B28 x (X11_least_B15 n) ih FU a0 i1 (nI 0) h)
def X11_least_f (a0 : Nat) (h : AH) : Option (Int32 × AH) :=
  G (xc h a0 = 11) <|
  if (xI h a0 13) = 0 then (
    G (xc h a0 = 11) <|
    BN (X11_refuse_f a0 (nI 1) h) fun v4 h3 =>
    some (v4, h3)
  ) else (
    X11_least_B15 FU a0 (nI 0) h
  )
theorem jX11_least (x : CT) (a0 : Nat) (h : AH) : J x qX11_least ZI 0 [(0, rv (zx x) a0)] [] h (X11_least_f a0 h) := by
  unfold X11_least_f
  refine J_aload_n 0 dX11_least_0 rv_is rfl ?_
  refine J_G (fun g1 => ?_)
  refine J_getI kc_11 13 (by decide) rfl rfl kw_3_55 dX11_least_1 g1 ?_
  refine J_if_ne (tgt := 13) dX11_least_4 rfl ?_ ?_
  · refine J_iconst (v := nI 0) dX11_least_13 rfl ?_
    refine J_istore_n dX11_least_14 (by decide) (SD.c (lvr := [(0, rv (zx x) a0)]) [0] rfl rfl 0 rfl rfl rv_cat) ?_
    exact J_sub [1, 0] rfl (jX11_least_B15 x FU a0 (nI 0) h)
  · refine J_aload_n 0 dX11_least_7 rv_is rfl ?_
    refine J_iconst (v := nI 1) dX11_least_8 rfl ?_
    refine J_G (fun g2 => ?_)
    refine J.callV (n := 1) (As := [.int (nI 1)]) kc_11 (ctX11_refuse (lx x) (wx x) a0 (nI 1) h) kw_3_112 kw_3_109 kw_3_111 kp_0 kw_1_1 (by decide +kernel) rfl (by decide) (Nat.zero_le _) rfl dX11_least_9 g2 (fun v4 h3 => ?_)
    show J x _ _ 12 _ [.int v4] h3 _
    exact J_iret dX11_least_12
theorem ctX11_least (l : Launch) (w : WT) (a0 : Nat) (h : AH) : CM l w yX11_least cX11_least 3 (some .int) 7 179 KI [rv (w.1) a0] h (X11_least_f a0 h) :=
  CM.of (by decide +kernel) (by simp [lg_sl, rv_cat, cat_I, cat_L, cat_S]) (lv := [(0, rv (w.1) a0)]) (by simp [lv_args, rv_cat, cat_I, cat_L, cat_S]) (fun x hx => by subst hx; exact jX11_least x a0 h)
-- FallTrials.reason(IIII)I
abbrev qX11_reason : MT := (cX11_reason, RX11, "reason", (some .int), 6, 135, 5)
def X11_reason_B68 (h : AH) : Option ((Int32 ⊕ Nat) × AH) :=
  some (.inr (xn h), pN h 99 6)
theorem jX11_reason_B68 (x : CT) (h : AH) : J x qX11_reason YI 68 [] [] h (X11_reason_B68 h) := by
  unfold X11_reason_B68
  exact J_throwN (by decide +kernel) (by decide) dX11_reason_68 dX11_reason_71 dX11_reason_72 dX11_reason_75
def X11_reason_f (a0 : Nat) (i1 : Int32) (i2 : Int32) (i3 : Int32) (i4 : Int32) (h : AH) : Option ((Int32 ⊕ Nat) × AH) :=
  G (xc h a0 = 11) <|
  BN (X11_wrongPlace_f a0 i1 i2 i3 h) fun v3 h2 =>
  if v3 = 0 then (
    G (xc h2 a0 = 11) <|
    G (xc h2 (xR h2 a0 8) = 9) <|
    BN (X9_play_f (xR h2 a0 8) (xR h2 a0 1) (xR h2 a0 3) (xR h2 a0 9) h2) fun _ h6 =>
    G (xc h6 a0 = 11) <|
    G (xc h6 (xR h6 a0 9) = 8) <|
    BN (X8_listReasons_f (xR h6 a0 9) (xR h6 a0 1) i1 i2 i3 h6) fun _ h9 =>
    if i4 < 0 then (
      X11_reason_B68 h9
    ) else (
      G (xc h9 a0 = 11) <|
      G (xc h9 (xR h9 a0 9) = 8) <|
      if i4 < (xI h9 (xR h9 a0 9) 5) then (
        G (xc h9 a0 = 11) <|
        G (xc h9 (xR h9 a0 9) = 8) <|
        G (xc h9 (xR h9 (xR h9 a0 9) 4) = 16) <|
        G (gx i4 (xz h9 (xR h9 (xR h9 a0 9) 4))) <|
        some (.inl (xI h9 (xR h9 (xR h9 a0 9) 4) i4.toNatClampNeg), h9)
      ) else (
        X11_reason_B68 h9
      )
    )
  ) else (
    some (.inr (xn h2), pN h2 99 6)
  )
theorem jX11_reason (x : CT) (a0 : Nat) (i1 : Int32) (i2 : Int32) (i3 : Int32) (i4 : Int32) (h : AH) : J x qX11_reason YI 0 [(0, rv (zx x) a0), (1, .int i1), (2, .int i2), (3, .int i3), (4, .int i4)] [] h (X11_reason_f a0 i1 i2 i3 i4 h) := by
  unfold X11_reason_f
  refine J_aload_n 0 dX11_reason_0 rv_is rfl ?_
  refine J_iload_n 1 dX11_reason_1 rfl ?_
  refine J_iload_n 2 dX11_reason_2 rfl ?_
  refine J_iload_n 3 dX11_reason_3 rfl ?_
  refine J_G (fun g1 => ?_)
  refine J.callV (n := 3) (As := [.int i1, .int i2, .int i3]) kc_11 (ctX11_wrongPlace (lx x) (wx x) a0 i1 i2 i3 h) kw_4_219 kw_4_216 kw_4_218 kp_2 kw_1_1 (by decide +kernel) rfl (by decide) (Nat.zero_le _) rfl dX11_reason_4 g1 (fun v3 h2 => ?_)
  show J x _ _ 7 _ [.int v3] h2 _
  refine J_if_eq (tgt := 18) dX11_reason_7 rfl ?_ ?_
  · refine J_aload_n 0 dX11_reason_18 rv_is rfl ?_
    refine J_G (fun g4 => ?_)
    refine J_getR kc_11 8 (by decide) rfl rfl kw_3_50 dX11_reason_19 g4 ?_
    refine J_aload_n 0 dX11_reason_22 rv_is rfl ?_
    refine J_getR kc_11 1 (by decide) rfl rfl kw_3_43 dX11_reason_23 g4 ?_
    refine J_aload_n 0 dX11_reason_26 rv_is rfl ?_
    refine J_getR kc_11 3 (by decide) rfl rfl kw_3_45 dX11_reason_27 g4 ?_
    refine J_aload_n 0 dX11_reason_30 rv_is rfl ?_
    refine J_getR kc_11 9 (by decide) rfl rfl kw_3_51 dX11_reason_31 g4 ?_
    refine J_G (fun g5 => ?_)
    refine J.callV (n := 3) (As := [rv (zx x) (xR h2 a0 1), rv (zx x) (xR h2 a0 3), rv (zx x) (xR h2 a0 9)]) kc_9 (ctX9_play (lx x) (wx x) (xR h2 a0 8) (xR h2 a0 1) (xR h2 a0 3) (xR h2 a0 9) h2) kw_4_116 kw_4_113 kw_4_114 kw_4_115 kw_1_7 (by decide +kernel) rfl (by decide) (Nat.zero_le _) rfl dX11_reason_34 g5 (fun _ h6 => ?_)
    show J x _ _ 37 _ [] h6 _
    refine J_aload_n 0 dX11_reason_37 rv_is rfl ?_
    refine J_G (fun g7 => ?_)
    refine J_getR kc_11 9 (by decide) rfl rfl kw_3_51 dX11_reason_38 g7 ?_
    refine J_aload_n 0 dX11_reason_41 rv_is rfl ?_
    refine J_getR kc_11 1 (by decide) rfl rfl kw_3_43 dX11_reason_42 g7 ?_
    refine J_iload_n 1 dX11_reason_45 rfl ?_
    refine J_iload_n 2 dX11_reason_46 rfl ?_
    refine J_iload_n 3 dX11_reason_47 rfl ?_
    refine J_G (fun g8 => ?_)
    refine J.callV (n := 4) (As := [rv (zx x) (xR h6 a0 1), .int i1, .int i2, .int i3]) kc_8 (ctX8_listReasons (lx x) (wx x) (xR h6 a0 9) (xR h6 a0 1) i1 i2 i3 h6) kw_4_231 kw_4_228 kw_4_229 kw_4_230 kw_1_10 (by decide +kernel) rfl (by decide) (Nat.zero_le _) rfl dX11_reason_48 g8 (fun _ h9 => ?_)
    show J x _ _ 51 _ [] h9 _
    refine J_iload 4 dX11_reason_51 rfl ?_
    refine J_if_lt (tgt := 68) dX11_reason_53 rfl ?_ ?_
    · exact J_sub [] rfl (jX11_reason_B68 x h9)
    · refine J_iload 4 dX11_reason_56 rfl ?_
      refine J_aload_n 0 dX11_reason_58 rv_is rfl ?_
      refine J_G (fun g10 => ?_)
      refine J_getR kc_11 9 (by decide) rfl rfl kw_3_51 dX11_reason_59 g10 ?_
      refine J_G (fun g11 => ?_)
      refine J_getI kc_8 5 (by decide) rfl rfl kw_2_149 dX11_reason_62 g11 ?_
      refine J_icmp_lt (tgt := 76) dX11_reason_65 rfl ?_ ?_
      · refine J_aload_n 0 dX11_reason_76 rv_is rfl ?_
        refine J_G (fun g12 => ?_)
        refine J_getR kc_11 9 (by decide) rfl rfl kw_3_51 dX11_reason_77 g12 ?_
        refine J_G (fun g13 => ?_)
        refine J_getR kc_8 4 (by decide) rfl rfl kw_2_147 dX11_reason_80 g13 ?_
        refine J_iload 4 dX11_reason_83 rfl ?_
        refine J_G (fun g14 => ?_)
        refine J_G (fun g15 => ?_)
        refine J_iald dX11_reason_85 g14 g15 ?_
        exact J_iretY dX11_reason_86
      · exact J_sub [] rfl (jX11_reason_B68 x h9)
  · exact J_throwN (by decide +kernel) (by decide) dX11_reason_10 dX11_reason_13 dX11_reason_14 dX11_reason_17
theorem ctX11_reason (l : Launch) (w : WT) (a0 : Nat) (i1 : Int32) (i2 : Int32) (i3 : Int32) (i4 : Int32) (h : AH) : CX l w yX11_reason cX11_reason 5 (some .int) 6 135 KI [rv (w.1) a0, .int i1, .int i2, .int i3, .int i4] h (X11_reason_f a0 i1 i2 i3 i4 h) :=
  CX.of (by decide +kernel) (by simp [lg_sl, rv_cat, cat_I, cat_L, cat_S]) (lv := [(0, rv (w.1) a0), (1, .int i1), (2, .int i2), (3, .int i3), (4, .int i4)]) (by simp [lv_args, rv_cat, cat_I, cat_L, cat_S]) (fun x hx => by subst hx; exact jX11_reason x a0 i1 i2 i3 i4 h)
-- FallTrials.led(I)I
abbrev qX11_led : MT := (cX11_led, RX11, "led", (some .int), 6, 135, 2)
def X11_led_B20 (h : AH) : Option ((Int32 ⊕ Nat) × AH) :=
  some (.inr (xn h), pN h 99 6)
theorem jX11_led_B20 (x : CT) (h : AH) : J x qX11_led YI 20 [] [] h (X11_led_B20 h) := by
  unfold X11_led_B20
  exact J_throwN (by decide +kernel) (by decide) dX11_led_20 dX11_led_23 dX11_led_24 dX11_led_27
def X11_led_f (a0 : Nat) (i1 : Int32) (h : AH) : Option ((Int32 ⊕ Nat) × AH) :=
  G (xc h a0 = 11) <|
  if (xI h a0 13) = 0 then (
    X11_led_B20 h
  ) else (
    if i1 < 0 then (
      X11_led_B20 h
    ) else (
      G (xc h a0 = 11) <|
      G (xc h (xR h a0 11) = 16) <|
      if i1 < (nI (xz h (xR h a0 11))) then (
        G (xc h a0 = 11) <|
        G (xc h (xR h a0 8) = 9) <|
        BN (X9_play_f (xR h a0 8) (xR h a0 1) (xR h a0 3) (xR h a0 9) h) fun _ h6 =>
        G (xc h6 a0 = 11) <|
        G (xc h6 (xR h6 a0 9) = 8) <|
        BN (X8_followChain_f (xR h6 a0 9) (xR h6 a0 1) (xR h6 a0 11) h6) fun v10 h9 =>
        if i1 < v10 then (
          G (xc h9 a0 = 11) <|
          G (xc h9 (xR h9 a0 11) = 16) <|
          G (gx i1 (xz h9 (xR h9 a0 11))) <|
          some (.inl (xI h9 (xR h9 a0 11) i1.toNatClampNeg), h9)
        ) else (
          some (.inr (xn h9), pN h9 99 6)
        )
      ) else (
        X11_led_B20 h
      )
    )
  )
theorem jX11_led (x : CT) (a0 : Nat) (i1 : Int32) (h : AH) : J x qX11_led YI 0 [(0, rv (zx x) a0), (1, .int i1)] [] h (X11_led_f a0 i1 h) := by
  unfold X11_led_f
  refine J_aload_n 0 dX11_led_0 rv_is rfl ?_
  refine J_G (fun g1 => ?_)
  refine J_getI kc_11 13 (by decide) rfl rfl kw_3_55 dX11_led_1 g1 ?_
  refine J_if_eq (tgt := 20) dX11_led_4 rfl ?_ ?_
  · exact J_sub [] rfl (jX11_led_B20 x h)
  · refine J_iload_n 1 dX11_led_7 rfl ?_
    refine J_if_lt (tgt := 20) dX11_led_8 rfl ?_ ?_
    · exact J_sub [] rfl (jX11_led_B20 x h)
    · refine J_iload_n 1 dX11_led_11 rfl ?_
      refine J_aload_n 0 dX11_led_12 rv_is rfl ?_
      refine J_G (fun g2 => ?_)
      refine J_getR kc_11 11 (by decide) rfl rfl kw_3_53 dX11_led_13 g2 ?_
      refine J_G (fun g3 => ?_)
      refine J_alen16 dX11_led_16 g3 ?_
      refine J_icmp_lt (tgt := 28) dX11_led_17 rfl ?_ ?_
      · refine J_aload_n 0 dX11_led_28 rv_is rfl ?_
        refine J_G (fun g4 => ?_)
        refine J_getR kc_11 8 (by decide) rfl rfl kw_3_50 dX11_led_29 g4 ?_
        refine J_aload_n 0 dX11_led_32 rv_is rfl ?_
        refine J_getR kc_11 1 (by decide) rfl rfl kw_3_43 dX11_led_33 g4 ?_
        refine J_aload_n 0 dX11_led_36 rv_is rfl ?_
        refine J_getR kc_11 3 (by decide) rfl rfl kw_3_45 dX11_led_37 g4 ?_
        refine J_aload_n 0 dX11_led_40 rv_is rfl ?_
        refine J_getR kc_11 9 (by decide) rfl rfl kw_3_51 dX11_led_41 g4 ?_
        refine J_G (fun g5 => ?_)
        refine J.callV (n := 3) (As := [rv (zx x) (xR h a0 1), rv (zx x) (xR h a0 3), rv (zx x) (xR h a0 9)]) kc_9 (ctX9_play (lx x) (wx x) (xR h a0 8) (xR h a0 1) (xR h a0 3) (xR h a0 9) h) kw_4_116 kw_4_113 kw_4_114 kw_4_115 kw_1_7 (by decide +kernel) rfl (by decide) (Nat.zero_le _) rfl dX11_led_44 g5 (fun _ h6 => ?_)
        show J x _ _ 47 _ [] h6 _
        refine J_iload_n 1 dX11_led_47 rfl ?_
        refine J_aload_n 0 dX11_led_48 rv_is rfl ?_
        refine J_G (fun g7 => ?_)
        refine J_getR kc_11 9 (by decide) rfl rfl kw_3_51 dX11_led_49 g7 ?_
        refine J_aload_n 0 dX11_led_52 rv_is rfl ?_
        refine J_getR kc_11 1 (by decide) rfl rfl kw_3_43 dX11_led_53 g7 ?_
        refine J_aload_n 0 dX11_led_56 rv_is rfl ?_
        refine J_getR kc_11 11 (by decide) rfl rfl kw_3_53 dX11_led_57 g7 ?_
        refine J_G (fun g8 => ?_)
        refine J.callV (n := 2) (As := [rv (zx x) (xR h6 a0 1), rv (zx x) (xR h6 a0 11)]) kc_8 (ctX8_followChain (lx x) (wx x) (xR h6 a0 9) (xR h6 a0 1) (xR h6 a0 11) h6) kw_6_138 kw_6_135 kw_6_136 kw_6_137 kw_1_10 (by decide +kernel) rfl (by decide) (by simp [rv_cat, cat_I, cat_L, cat_S]) rfl dX11_led_60 g8 (fun v10 h9 => ?_)
        show J x _ _ 63 _ [.int v10, .int i1] h9 _
        refine J_icmp_lt (tgt := 74) dX11_led_63 rfl ?_ ?_
        · refine J_aload_n 0 dX11_led_74 rv_is rfl ?_
          refine J_G (fun g11 => ?_)
          refine J_getR kc_11 11 (by decide) rfl rfl kw_3_53 dX11_led_75 g11 ?_
          refine J_iload_n 1 dX11_led_78 rfl ?_
          refine J_G (fun g12 => ?_)
          refine J_G (fun g13 => ?_)
          refine J_iald dX11_led_79 g12 g13 ?_
          exact J_iretY dX11_led_80
        · exact J_throwN (by decide +kernel) (by decide) dX11_led_66 dX11_led_69 dX11_led_70 dX11_led_73
      · exact J_sub [] rfl (jX11_led_B20 x h)
theorem ctX11_led (l : Launch) (w : WT) (a0 : Nat) (i1 : Int32) (h : AH) : CX l w yX11_led cX11_led 2 (some .int) 6 135 KI [rv (w.1) a0, .int i1] h (X11_led_f a0 i1 h) :=
  CX.of (by decide +kernel) (by simp [lg_sl, rv_cat, cat_I, cat_L, cat_S]) (lv := [(0, rv (w.1) a0), (1, .int i1)]) (by simp [lv_args, rv_cat, cat_I, cat_L, cat_S]) (fun x hx => by subst hx; exact jX11_led x a0 i1 h)
