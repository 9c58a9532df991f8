-- FallTrials.stands(III)I
abbrev qX11_stands : MT := (cX11_stands, RX11, "stands", (some .int), 6, 156, 5)
def X11_stands_f (a0 : Nat) (i1 : Int32) (i2 : Int32) (i3 : Int32) (h : AH) : Option (Int32 × AH) :=
  G (xc h a0 = 11) <|
  BN (X11_wrongPlace_f a0 i1 i2 i3 h) fun v3 h2 =>
  if v3 = 0 then (
    G (xc h2 a0 = 11) <|
    G (xc h2 (xR h2 a0 8) = 9) <|
    BN (X9_play_f (xR h2 a0 8) (xR h2 a0 1) (xR h2 a0 4) (xR h2 a0 10) h2) fun _ h6 =>
    G (xc h6 a0 = 11) <|
    G (xc h6 (xR h6 a0 10) = 8) <|
    BN (X8_isThere_f (xR h6 a0 10) i1 i2 i3 h6) fun v10 h9 =>
    if v10 = 0 then (
      G (xc h9 a0 = 11) <|
      BN (X11_refuse_f a0 (nI 5) h9) fun v27 h26 =>
      some (v27, h26)
    ) else (
      G (xc h9 a0 = 11) <|
      G (xc h9 (xR h9 a0 8) = 9) <|
      BN (X9_spoiledBy_f (xR h9 a0 8) (xR h9 a0 1) (xR h9 a0 10) (xR h9 a0 3) h9) fun w14 h13 =>
      G (xc h13 a0 = 11) <|
      G (xc h13 (xR h13 a0 8) = 9) <|
      G (xc h13 (xR h13 (xR h13 a0 8) 9) = 7) <|
      BN (X11_cell_f i3 i2 h13) fun v19 h18 =>
      G (xc h18 (xR h13 (xR h13 (xR h13 a0 8) 9) 0) = 17) <|
      G (gx ((v19 * (nI 10)) + i1) (xz h18 (xR h13 (xR h13 (xR h13 a0 8) 9) 0))) <|
      G (xc h18 a0 = 11) <|
      BN (X11_grant_f a0 (((xL h18 (xR h13 (xR h13 (xR h13 a0 8) 9) 0) ((v19 * (nI 10)) + i1).toNatClampNeg) &&& (lN 1)).toInt32) h18) fun v24 h23 =>
      some (v24, h23)
    )
  ) else (
    G (xc h2 a0 = 11) <|
    BN (X11_refuse_f a0 v3 h2) fun v30 h29 =>
    some (v30, h29)
  )
theorem jX11_stands (x : CT) (a0 : Nat) (i1 : Int32) (i2 : Int32) (i3 : Int32) (h : AH) : J x qX11_stands ZI 0 [(0, rv (zx x) a0), (1, .int i1), (2, .int i2), (3, .int i3)] [] h (X11_stands_f a0 i1 i2 i3 h) := by
  unfold X11_stands_f
  refine J_aload_n 0 dX11_stands_0 rv_is rfl ?_
  refine J_iload_n 1 dX11_stands_1 rfl ?_
  refine J_iload_n 2 dX11_stands_2 rfl ?_
  refine J_iload_n 3 dX11_stands_3 rfl ?_
  refine J_G (fun g1 => ?_)
  refine J.callV (n := 3) (As := [.int i1, .int i2, .int i3]) kc_11 (ctX11_wrongPlace (lx x) (wx x) a0 i1 i2 i3 h) kw_4_219 kw_4_216 kw_4_218 kp_2 kw_1_1 (by decide +kernel) rfl (by decide) (Nat.zero_le _) rfl dX11_stands_4 g1 (fun v3 h2 => ?_)
  show J x _ _ 7 _ [.int v3] h2 _
  refine J_istore dX11_stands_7 (by decide) (SD.a (lvr := [(0, rv (zx x) a0), (1, .int i1), (2, .int i2), (3, .int i3)]) [0, 1, 2, 3] rfl rfl) ?_
  refine J_iload 0 dX11_stands_9 rfl ?_
  refine J_if_eq (tgt := 21) dX11_stands_11 rfl ?_ ?_
  · refine J_aload_n 1 dX11_stands_21 rv_is rfl ?_
    refine J_G (fun g4 => ?_)
    refine J_getR kc_11 8 (by decide) rfl rfl kw_3_50 dX11_stands_22 g4 ?_
    refine J_aload_n 1 dX11_stands_25 rv_is rfl ?_
    refine J_getR kc_11 1 (by decide) rfl rfl kw_3_43 dX11_stands_26 g4 ?_
    refine J_aload_n 1 dX11_stands_29 rv_is rfl ?_
    refine J_getR kc_11 4 (by decide) rfl rfl kw_3_46 dX11_stands_30 g4 ?_
    refine J_aload_n 1 dX11_stands_33 rv_is rfl ?_
    refine J_getR kc_11 10 (by decide) rfl rfl kw_3_52 dX11_stands_34 g4 ?_
    refine J_G (fun g5 => ?_)
    refine J.callV (n := 3) (As := [rv (zx x) (xR h2 a0 1), rv (zx x) (xR h2 a0 4), rv (zx x) (xR h2 a0 10)]) kc_9 (ctX9_play (lx x) (wx x) (xR h2 a0 8) (xR h2 a0 1) (xR h2 a0 4) (xR h2 a0 10) h2) kw_4_116 kw_4_113 kw_4_114 kw_4_115 kw_1_7 (by decide +kernel) rfl (by decide) (Nat.zero_le _) rfl dX11_stands_37 g5 (fun _ h6 => ?_)
    show J x _ _ 40 _ [] h6 _
    refine J_aload_n 1 dX11_stands_40 rv_is rfl ?_
    refine J_G (fun g7 => ?_)
    refine J_getR kc_11 10 (by decide) rfl rfl kw_3_52 dX11_stands_41 g7 ?_
    refine J_iload_n 2 dX11_stands_44 rfl ?_
    refine J_iload_n 3 dX11_stands_45 rfl ?_
    refine J_iload_n 4 dX11_stands_46 rfl ?_
    refine J_G (fun g8 => ?_)
    refine J.callV (n := 3) (As := [.int i1, .int i2, .int i3]) kc_8 (ctX8_isThere (lx x) (wx x) (xR h6 a0 10) i1 i2 i3 h6) kw_4_223 kw_4_220 kw_4_221 kw_4_222 kw_1_10 (by decide +kernel) rfl (by decide) (Nat.zero_le _) rfl dX11_stands_47 g8 (fun v10 h9 => ?_)
    show J x _ _ 50 _ [.int v10] h9 _
    refine J_if_ne (tgt := 59) dX11_stands_50 rfl ?_ ?_
    · refine J_aload_n 1 dX11_stands_59 rv_is rfl ?_
      refine J_G (fun g11 => ?_)
      refine J_getR kc_11 8 (by decide) rfl rfl kw_3_50 dX11_stands_60 g11 ?_
      refine J_aload_n 1 dX11_stands_63 rv_is rfl ?_
      refine J_getR kc_11 1 (by decide) rfl rfl kw_3_43 dX11_stands_64 g11 ?_
      refine J_aload_n 1 dX11_stands_67 rv_is rfl ?_
      refine J_getR kc_11 10 (by decide) rfl rfl kw_3_52 dX11_stands_68 g11 ?_
      refine J_aload_n 1 dX11_stands_71 rv_is rfl ?_
      refine J_getR kc_11 3 (by decide) rfl rfl kw_3_45 dX11_stands_72 g11 ?_
      refine J_G (fun g12 => ?_)
      refine J.callV (n := 3) (As := [rv (zx x) (xR h9 a0 1), rv (zx x) (xR h9 a0 10), rv (zx x) (xR h9 a0 3)]) kc_9 (ctX9_spoiledBy (lx x) (wx x) (xR h9 a0 8) (xR h9 a0 1) (xR h9 a0 10) (xR h9 a0 3) h9) kw_5_42 kw_5_39 kw_5_40 kw_5_41 kw_1_7 (by decide +kernel) rfl (by decide) (Nat.zero_le _) rfl dX11_stands_75 g12 (fun w14 h13 => ?_)
      show J x _ _ 78 _ [.long w14] h13 _
      refine J_pop2 dX11_stands_78 rfl ?_
      refine J_aload_n 1 dX11_stands_79 rv_is rfl ?_
      refine J_aload_n 1 dX11_stands_80 rv_is rfl ?_
      refine J_G (fun g15 => ?_)
      refine J_getR kc_11 8 (by decide) rfl rfl kw_3_50 dX11_stands_81 g15 ?_
      refine J_G (fun g16 => ?_)
      refine J_getR kc_9 9 (by decide) rfl rfl kw_3_6 dX11_stands_84 g16 ?_
      refine J_G (fun g17 => ?_)
      refine J_getR kc_7 0 (by decide) rfl rfl kw_2_217 dX11_stands_87 g17 ?_
      refine J_iload_n 4 dX11_stands_90 rfl ?_
      refine J_iload_n 3 dX11_stands_91 rfl ?_
      refine J.callS (n := 2) (As := [.int i3, .int i2]) (ctX11_cell (lx x) (wx x) i3 i2 h13) kw_4_149 kw_5_27 kw_4_148 kw_1_1 (by decide +kernel) rfl (by decide) (by simp [rv_cat, cat_I, cat_L, cat_S]) rfl dX11_stands_92 (fun v19 h18 => ?_)
      show J x _ _ 95 _ [.int v19, rv (zx x) (xR h13 (xR h13 (xR h13 a0 8) 9) 0), rv (zx x) a0] h18 _
      refine J_bipush (v := nI 10) dX11_stands_95 rfl ?_
      refine J_imul dX11_stands_97 ?_
      refine J_iload_n 2 dX11_stands_98 rfl ?_
      refine J_iadd dX11_stands_99 ?_
      refine J_G (fun g20 => ?_)
      refine J_G (fun g21 => ?_)
      refine J_lald dX11_stands_100 g20 g21 ?_
      refine J_lconst (v := lN 1) dX11_stands_101 rfl ?_
      refine J_land dX11_stands_102 ?_
      refine J_l2i dX11_stands_103 ?_
      refine J_G (fun g22 => ?_)
      refine J.callV (n := 1) (As := [.int (((xL h18 (xR h13 (xR h13 (xR h13 a0 8) 9) 0) ((v19 * (nI 10)) + i1).toNatClampNeg) &&& (lN 1)).toInt32)]) kc_11 (ctX11_grant (lx x) (wx x) a0 (((xL h18 (xR h13 (xR h13 (xR h13 a0 8) 9) 0) ((v19 * (nI 10)) + i1).toNatClampNeg) &&& (lN 1)).toInt32) h18) kw_4_65 kw_4_62 kw_4_64 kp_1 kw_1_1 (by decide +kernel) rfl (by decide) (Nat.zero_le _) rfl dX11_stands_104 g22 (fun v24 h23 => ?_)
      show J x _ _ 107 _ [.int v24] h23 _
      exact J_iret dX11_stands_107
    · refine J_aload_n 1 dX11_stands_53 rv_is rfl ?_
      refine J_iconst (v := nI 5) dX11_stands_54 rfl ?_
      refine J_G (fun g25 => ?_)
      refine J.callV (n := 1) (As := [.int (nI 5)]) kc_11 (ctX11_refuse (lx x) (wx x) a0 (nI 5) h9) kw_3_112 kw_3_109 kw_3_111 kp_0 kw_1_1 (by decide +kernel) rfl (by decide) (Nat.zero_le _) rfl dX11_stands_55 g25 (fun v27 h26 => ?_)
      show J x _ _ 58 _ [.int v27] h26 _
      exact J_iret dX11_stands_58
  · refine J_aload_n 1 dX11_stands_14 rv_is rfl ?_
    refine J_iload 0 dX11_stands_15 rfl ?_
    refine J_G (fun g28 => ?_)
    refine J.callV (n := 1) (As := [.int v3]) kc_11 (ctX11_refuse (lx x) (wx x) a0 v3 h2) kw_3_112 kw_3_109 kw_3_111 kp_0 kw_1_1 (by decide +kernel) rfl (by decide) (Nat.zero_le _) rfl dX11_stands_17 g28 (fun v30 h29 => ?_)
    show J x _ _ 20 _ [.int v30] h29 _
    exact J_iret dX11_stands_20
theorem ctX11_stands (l : Launch) (w : WT) (a0 : Nat) (i1 : Int32) (i2 : Int32) (i3 : Int32) (h : AH) : CM l w yX11_stands cX11_stands 5 (some .int) 6 156 KI [rv (w.1) a0, .int i1, .int i2, .int i3] h (X11_stands_f a0 i1 i2 i3 h) :=
  CM.of (by decide +kernel) (by simp [lg_sl, rv_cat, cat_I, cat_L, cat_S]) (lv := [(0, rv (w.1) a0), (1, .int i1), (2, .int i2), (3, .int i3)]) (by simp [lv_args, rv_cat, cat_I, cat_L, cat_S]) (fun x hx => by subst hx; exact jX11_stands x a0 i1 i2 i3 h)
-- FallTrials.cut()I
abbrev qX11_cut : MT := (cX11_cut, RX11, "cut", (some .int), 6, 157, 2)
def X11_cut_B99 (a0 : Nat) (h : AH) : Option (Int32 × AH) :=
  G (xc h a0 = 11) <|
  G (xc h (xR h a0 3) = 4) <|
  BN (X11_grant_f a0 (xI h (xR h a0 3) 1) h) fun v4 h3 =>
  some (v4, h3)
theorem jX11_cut_B99 (x : CT) (a0 : Nat) (h : AH) : J x qX11_cut ZI 99 [(0, rv (zx x) a0)] [] h (X11_cut_B99 a0 h) := by
  unfold X11_cut_B99
  refine J_aload_n 0 dX11_cut_99 rv_is rfl ?_
  refine J_aload_n 0 dX11_cut_100 rv_is rfl ?_
  refine J_G (fun g1 => ?_)
  refine J_getR kc_11 3 (by decide) rfl rfl kw_3_45 dX11_cut_101 g1 ?_
  refine J_G (fun g2 => ?_)
  refine J_getI kc_4 1 (by decide) rfl rfl kw_2_58 dX11_cut_104 g2 ?_
  refine J.callV (n := 1) (As := [.int (xI h (xR h a0 3) 1)]) kc_11 (ctX11_grant (lx x) (wx x) a0 (xI h (xR h a0 3) 1) h) kw_4_65 kw_4_62 kw_4_64 kp_1 kw_1_1 (by decide +kernel) rfl (by decide) (Nat.zero_le _) rfl dX11_cut_107 g1 (fun v4 h3 => ?_)
  show J x _ _ 110 _ [.int v4] h3 _
  exact J_iret dX11_cut_110
def X11_cut_B93 (k44 : (Nat → Int32 → AH → Option (Int32 × AH))) (a0 : Nat) (i1 : Int32) (h : AH) : Option (Int32 × AH) :=
  LT (i1 + (-1)) fun v1 =>
  k44 a0 v1 h
theorem jX11_cut_B93 (x : CT) (k44 : (Nat → Int32 → AH → Option (Int32 × AH))) (hk44 : ∀ (a0 : Nat) (i1 : Int32) (h : AH), J x qX11_cut ZI 44 [(0, rv (zx x) a0), (1, .int i1)] [] h (k44 a0 i1 h)) (a0 : Nat) (i1 : Int32) (h : AH) : J x qX11_cut ZI 93 [(0, rv (zx x) a0), (1, .int i1)] [] h (X11_cut_B93 k44 a0 i1 h) := by
  unfold X11_cut_B93
  refine J_iincL (u := i1 + (-1)) 1 dX11_cut_93 rfl rfl (by decide) (SD.c (lvr := [(0, rv (zx x) a0)]) [0] rfl rfl 0 rfl rfl rv_cat) (fun v1 => ?_)
  refine J_goto (tgt := 44) dX11_cut_96 rfl ?_
  exact J_sub [1, 0] rfl (hk44 a0 v1 h)
def X11_cut_B44 : Nat → Nat → Int32 → AH → Option (Int32 × AH)
  | 0, _, _, _ => none
  | n + 1, a0, i1, h =>
    if i1 < 0 then (
      X11_cut_B99 a0 h
    ) else (
      G (xc h a0 = 11) <|
      G (xc h (xR h a0 5) = 4) <|
      BN (X4_take_f (xR h a0 5) (xR h a0 3) h) fun _ h3 =>
      G (xc h3 a0 = 11) <|
      G (xc h3 (xR h3 a0 5) = 4) <|
      BN (X4_dropAt_f (xR h3 a0 5) i1 h3) fun _ h6 =>
      G (xc h6 a0 = 11) <|
      BN (X11_isBroken_f a0 (xR h6 a0 1) (xR h6 a0 5) h6) fun v9 h8 =>
      if v9 = 0 then (
        X11_cut_B93 (X11_cut_B44 n) a0 i1 h8
      ) else (
        G (xc h8 a0 = 11) <|
        G (xc h8 (xR h8 a0 3) = 4) <|
        BN (X4_take_f (xR h8 a0 3) (xR h8 a0 5) h8) fun _ h12 =>
        X11_cut_B93 (X11_cut_B44 n) a0 i1 h12
      )
    )
theorem jX11_cut_B44 (x : CT) : ∀ (n : Nat) (a0 : Nat) (i1 : Int32) (h : AH), J x qX11_cut ZI 44 [(0, rv (zx x) a0), (1, .int i1)] [] h (X11_cut_B44 n a0 i1 h) := by
  intro n
  induction n with
  | zero => intro a0 i1 h; exact J_none
  | succ n ih =>
    intro a0 i1 h
    unfold X11_cut_B44
    refine J_iload_n 1 dX11_cut_44 rfl ?_
    refine J_if_lt (tgt := 99) dX11_cut_45 rfl ?_ ?_
    · exact J_sub [0] rfl (jX11_cut_B99 x a0 h)
    · refine J_aload_n 0 dX11_cut_48 rv_is rfl ?_
      refine J_G (fun g1 => ?_)
      refine J_getR kc_11 5 (by decide) rfl rfl kw_3_47 dX11_cut_49 g1 ?_
      refine J_aload_n 0 dX11_cut_52 rv_is rfl ?_
      refine J_getR kc_11 3 (by decide) rfl rfl kw_3_45 dX11_cut_53 g1 ?_
      refine J_G (fun g2 => ?_)
      refine J.callV (n := 1) (As := [rv (zx x) (xR h a0 3)]) kc_4 (ctX4_take (lx x) (wx x) (xR h a0 5) (xR h a0 3) h) kw_5_160 kw_5_208 kw_5_158 kw_5_159 kw_1_6 (by decide +kernel) rfl (by decide) (Nat.zero_le _) rfl dX11_cut_56 g2 (fun _ h3 => ?_)
      show J x _ _ 59 _ [] h3 _
      refine J_aload_n 0 dX11_cut_59 rv_is rfl ?_
      refine J_G (fun g4 => ?_)
      refine J_getR kc_11 5 (by decide) rfl rfl kw_3_47 dX11_cut_60 g4 ?_
      refine J_iload_n 1 dX11_cut_63 rfl ?_
      refine J_G (fun g5 => ?_)
      refine J.callV (n := 1) (As := [.int i1]) kc_4 (ctX4_dropAt (lx x) (wx x) (xR h3 a0 5) i1 h3) kw_5_212 kw_5_209 kw_5_210 kw_5_211 kw_1_6 (by decide +kernel) rfl (by decide) (Nat.zero_le _) rfl dX11_cut_64 g5 (fun _ h6 => ?_)
      show J x _ _ 67 _ [] h6 _
      refine J_aload_n 0 dX11_cut_67 rv_is rfl ?_
      refine J_aload_n 0 dX11_cut_68 rv_is rfl ?_
      refine J_G (fun g7 => ?_)
      refine J_getR kc_11 1 (by decide) rfl rfl kw_3_43 dX11_cut_69 g7 ?_
      refine J_aload_n 0 dX11_cut_72 rv_is rfl ?_
      refine J_getR kc_11 5 (by decide) rfl rfl kw_3_47 dX11_cut_73 g7 ?_
      refine J.callV (n := 2) (As := [rv (zx x) (xR h6 a0 1), rv (zx x) (xR h6 a0 5)]) kc_11 (ctX11_isBroken (lx x) (wx x) a0 (xR h6 a0 1) (xR h6 a0 5) h6) kw_5_207 kw_5_204 kw_5_206 kp_3 kw_1_1 (by decide +kernel) rfl (by decide) (Nat.zero_le _) rfl dX11_cut_76 g7 (fun v9 h8 => ?_)
      show J x _ _ 79 _ [.int v9] h8 _
      refine J_if_eq (tgt := 93) dX11_cut_79 rfl ?_ ?_
      · exact (jX11_cut_B93 x (X11_cut_B44 n) ih a0 i1 h8)
      · refine J_aload_n 0 dX11_cut_82 rv_is rfl ?_
        refine J_G (fun g10 => ?_)
        refine J_getR kc_11 3 (by decide) rfl rfl kw_3_45 dX11_cut_83 g10 ?_
        refine J_aload_n 0 dX11_cut_86 rv_is rfl ?_
        refine J_getR kc_11 5 (by decide) rfl rfl kw_3_47 dX11_cut_87 g10 ?_
        refine J_G (fun g11 => ?_)
        refine J.callV (n := 1) (As := [rv (zx x) (xR h8 a0 5)]) kc_4 (ctX4_take (lx x) (wx x) (xR h8 a0 3) (xR h8 a0 5) h8) kw_5_160 kw_5_208 kw_5_158 kw_5_159 kw_1_6 (by decide +kernel) rfl (by decide) (Nat.zero_le _) rfl dX11_cut_90 g11 (fun _ h12 => ?_)
        show J x _ _ 93 _ [] h12 _
        exact (jX11_cut_B93 x (X11_cut_B44 n) ih a0 i1 h12)
def X11_cut_f (a0 : Nat) (h : AH) : Option (Int32 × AH) :=
  G (xc h a0 = 11) <|
  if (xI h a0 13) = 0 then (
    G (xc h a0 = 11) <|
    BN (X11_refuse_f a0 (nI 1) h) fun v13 h12 =>
    some (v13, h12)
  ) else (
    G (xc h a0 = 11) <|
    BN (X11_isBroken_f a0 (xR h a0 1) (xR h a0 3) h) fun v4 h3 =>
    if v4 = 0 then (
      G (xc h3 a0 = 11) <|
      BN (X11_refuse_f a0 (nI 5) h3) fun v10 h9 =>
      some (v10, h9)
    ) else (
      G (xc h3 a0 = 11) <|
      G (xc h3 (xR h3 a0 3) = 4) <|
      LT ((xI h3 (xR h3 a0 3) 1) - (nI 1)) fun v7 =>
      X11_cut_B44 FU a0 v7 h3
    )
  )
theorem jX11_cut (x : CT) (a0 : Nat) (h : AH) : J x qX11_cut ZI 0 [(0, rv (zx x) a0)] [] h (X11_cut_f a0 h) := by
  unfold X11_cut_f
  refine J_aload_n 0 dX11_cut_0 rv_is rfl ?_
  refine J_G (fun g1 => ?_)
  refine J_getI kc_11 13 (by decide) rfl rfl kw_3_55 dX11_cut_1 g1 ?_
  refine J_if_ne (tgt := 13) dX11_cut_4 rfl ?_ ?_
  · refine J_aload_n 0 dX11_cut_13 rv_is rfl ?_
    refine J_aload_n 0 dX11_cut_14 rv_is rfl ?_
    refine J_G (fun g2 => ?_)
    refine J_getR kc_11 1 (by decide) rfl rfl kw_3_43 dX11_cut_15 g2 ?_
    refine J_aload_n 0 dX11_cut_18 rv_is rfl ?_
    refine J_getR kc_11 3 (by decide) rfl rfl kw_3_45 dX11_cut_19 g2 ?_
    refine J.callV (n := 2) (As := [rv (zx x) (xR h a0 1), rv (zx x) (xR h a0 3)]) kc_11 (ctX11_isBroken (lx x) (wx x) a0 (xR h a0 1) (xR h a0 3) h) kw_5_207 kw_5_204 kw_5_206 kp_3 kw_1_1 (by decide +kernel) rfl (by decide) (Nat.zero_le _) rfl dX11_cut_22 g2 (fun v4 h3 => ?_)
    show J x _ _ 25 _ [.int v4] h3 _
    refine J_if_ne (tgt := 34) dX11_cut_25 rfl ?_ ?_
    · refine J_aload_n 0 dX11_cut_34 rv_is rfl ?_
      refine J_G (fun g5 => ?_)
      refine J_getR kc_11 3 (by decide) rfl rfl kw_3_45 dX11_cut_35 g5 ?_
      refine J_G (fun g6 => ?_)
      refine J_getI kc_4 1 (by decide) rfl rfl kw_2_58 dX11_cut_38 g6 ?_
      refine J_iconst (v := nI 1) dX11_cut_41 rfl ?_
      refine J_isub dX11_cut_42 ?_
      refine J_LTi (fun v7 => ?_)
      refine J_istore_n dX11_cut_43 (by decide) (SD.c (lvr := [(0, rv (zx x) a0)]) [0] rfl rfl 0 rfl rfl rv_cat) ?_
      exact J_sub [1, 0] rfl (jX11_cut_B44 x FU a0 v7 h3)
    · refine J_aload_n 0 dX11_cut_28 rv_is rfl ?_
      refine J_iconst (v := nI 5) dX11_cut_29 rfl ?_
      refine J_G (fun g8 => ?_)
      refine J.callV (n := 1) (As := [.int (nI 5)]) kc_11 (ctX11_refuse (lx x) (wx x) a0 (nI 5) h3) kw_3_112 kw_3_109 kw_3_111 kp_0 kw_1_1 (by decide +kernel) rfl (by decide) (Nat.zero_le _) rfl dX11_cut_30 g8 (fun v10 h9 => ?_)
      show J x _ _ 33 _ [.int v10] h9 _
      exact J_iret dX11_cut_33
  · refine J_aload_n 0 dX11_cut_7 rv_is rfl ?_
    refine J_iconst (v := nI 1) dX11_cut_8 rfl ?_
    refine J_G (fun g11 => ?_)
    refine J.callV (n := 1) (As := [.int (nI 1)]) kc_11 (ctX11_refuse (lx x) (wx x) a0 (nI 1) h) kw_3_112 kw_3_109 kw_3_111 kp_0 kw_1_1 (by decide +kernel) rfl (by decide) (Nat.zero_le _) rfl dX11_cut_9 g11 (fun v13 h12 => ?_)
    show J x _ _ 12 _ [.int v13] h12 _
    exact J_iret dX11_cut_12
theorem ctX11_cut (l : Launch) (w : WT) (a0 : Nat) (h : AH) : CM l w yX11_cut cX11_cut 2 (some .int) 6 157 KI [rv (w.1) a0] h (X11_cut_f a0 h) :=
  CM.of (by decide +kernel) (by simp [lg_sl, rv_cat, cat_I, cat_L, cat_S]) (lv := [(0, rv (w.1) a0)]) (by simp [lv_args, rv_cat, cat_I, cat_L, cat_S]) (fun x hx => by subst hx; exact jX11_cut x a0 h)
-- FallTrials.fit(I)I
abbrev qX11_fit : MT := (cX11_fit, RX11, "fit", (some .int), 7, 179, 2)
def X11_fit_B41 (is0 : Int32) (as1 : Nat) (h : AH) : Option (Int32 × AH) :=
  G (xc h as1 = 11) <|
  BN (X11_grant_f as1 is0 h) fun v3 h2 =>
  some (v3, h2)
theorem jX11_fit_B41 (x : CT) (is0 : Int32) (as1 : Nat) (h : AH) : J x qX11_fit ZI 41 [] [.int is0, rv (zx x) as1] h (X11_fit_B41 is0 as1 h) := by
  unfold X11_fit_B41
  refine J_G (fun g1 => ?_)
  refine J.callV (n := 1) (As := [.int is0]) kc_11 (ctX11_grant (lx x) (wx x) as1 is0 h) kw_4_65 kw_4_62 kw_4_64 kp_1 kw_1_1 (by decide +kernel) rfl (by decide) (Nat.zero_le _) rfl dX11_fit_41 g1 (fun v3 h2 => ?_)
  show J x _ _ 44 _ [.int v3] h2 _
  exact J_iret dX11_fit_44
def X11_fit_f (a0 : Nat) (i1 : Int32) (h : AH) : Option (Int32 × AH) :=
  G (xc h a0 = 11) <|
  if (xI h a0 13) = 0 then (
    G (xc h a0 = 11) <|
    BN (X11_refuse_f a0 (nI 1) h) fun v13 h12 =>
    some (v13, h12)
  ) else (
    G (xc h a0 = 11) <|
    BN (X11_areMends_f a0 i1 h) fun v4 h3 =>
    if v4 = 0 then (
      G (xc h3 a0 = 11) <|
      BN (X11_refuse_f a0 (nI 2) h3) fun v10 h9 =>
      some (v10, h9)
    ) else (
      G (xc h3 a0 = 11) <|
      BN (X11_isFit_f a0 i1 h3) fun v7 h6 =>
      if v7 = 0 then (
        X11_fit_B41 (nI 0) a0 h6
      ) else (
        X11_fit_B41 (nI 1) a0 h6
      )
    )
  )
theorem jX11_fit (x : CT) (a0 : Nat) (i1 : Int32) (h : AH) : J x qX11_fit ZI 0 [(0, rv (zx x) a0), (1, .int i1)] [] h (X11_fit_f a0 i1 h) := by
  unfold X11_fit_f
  refine J_aload_n 0 dX11_fit_0 rv_is rfl ?_
  refine J_G (fun g1 => ?_)
  refine J_getI kc_11 13 (by decide) rfl rfl kw_3_55 dX11_fit_1 g1 ?_
  refine J_if_ne (tgt := 13) dX11_fit_4 rfl ?_ ?_
  · refine J_aload_n 0 dX11_fit_13 rv_is rfl ?_
    refine J_iload_n 1 dX11_fit_14 rfl ?_
    refine J_G (fun g2 => ?_)
    refine J.callV (n := 1) (As := [.int i1]) kc_11 (ctX11_areMends (lx x) (wx x) a0 i1 h) kw_6_17 kw_6_14 kw_6_16 kp_4 kw_1_1 (by decide +kernel) rfl (by decide) (Nat.zero_le _) rfl dX11_fit_15 g2 (fun v4 h3 => ?_)
    show J x _ _ 18 _ [.int v4] h3 _
    refine J_if_ne (tgt := 27) dX11_fit_18 rfl ?_ ?_
    · refine J_aload_n 0 dX11_fit_27 rv_is rfl ?_
      refine J_aload_n 0 dX11_fit_28 rv_is rfl ?_
      refine J_iload_n 1 dX11_fit_29 rfl ?_
      refine J_G (fun g5 => ?_)
      refine J.callV (n := 1) (As := [.int i1]) kc_11 (ctX11_isFit (lx x) (wx x) a0 i1 h3) kw_6_21 kw_6_18 kw_6_20 kp_5 kw_1_1 (by decide +kernel) rfl (by decide) (by simp [rv_cat, cat_I, cat_L, cat_S]) rfl dX11_fit_30 g5 (fun v7 h6 => ?_)
      show J x _ _ 33 _ [.int v7, rv (zx x) a0] h6 _
      refine J_if_eq (tgt := 40) dX11_fit_33 rfl ?_ ?_
      · refine J_iconst (v := nI 0) dX11_fit_40 rfl ?_
        exact J_sub [] rfl (jX11_fit_B41 x (nI 0) a0 h6)
      · refine J_iconst (v := nI 1) dX11_fit_36 rfl ?_
        refine J_goto (tgt := 41) dX11_fit_37 rfl ?_
        exact J_sub [] rfl (jX11_fit_B41 x (nI 1) a0 h6)
    · refine J_aload_n 0 dX11_fit_21 rv_is rfl ?_
      refine J_iconst (v := nI 2) dX11_fit_22 rfl ?_
      refine J_G (fun g8 => ?_)
      refine J.callV (n := 1) (As := [.int (nI 2)]) kc_11 (ctX11_refuse (lx x) (wx x) a0 (nI 2) h3) kw_3_112 kw_3_109 kw_3_111 kp_0 kw_1_1 (by decide +kernel) rfl (by decide) (Nat.zero_le _) rfl dX11_fit_23 g8 (fun v10 h9 => ?_)
      show J x _ _ 26 _ [.int v10] h9 _
      exact J_iret dX11_fit_26
  · refine J_aload_n 0 dX11_fit_7 rv_is rfl ?_
    refine J_iconst (v := nI 1) dX11_fit_8 rfl ?_
    refine J_G (fun g11 => ?_)
    refine J.callV (n := 1) (As := [.int (nI 1)]) kc_11 (ctX11_refuse (lx x) (wx x) a0 (nI 1) h) kw_3_112 kw_3_109 kw_3_111 kp_0 kw_1_1 (by decide +kernel) rfl (by decide) (Nat.zero_le _) rfl dX11_fit_9 g11 (fun v13 h12 => ?_)
    show J x _ _ 12 _ [.int v13] h12 _
    exact J_iret dX11_fit_12
theorem ctX11_fit (l : Launch) (w : WT) (a0 : Nat) (i1 : Int32) (h : AH) : CM l w yX11_fit cX11_fit 2 (some .int) 7 179 KI [rv (w.1) a0, .int i1] h (X11_fit_f a0 i1 h) :=
  CM.of (by decide +kernel) (by simp [lg_sl, rv_cat, cat_I, cat_L, cat_S]) (lv := [(0, rv (w.1) a0), (1, .int i1)]) (by simp [lv_args, rv_cat, cat_I, cat_L, cat_S]) (fun x hx => by subst hx; exact jX11_fit x a0 i1 h)
-- FallTrialsModel.book(I)I
abbrev qX15_book : MT := (cX15_book, RX15, "book", (some .int), 11, 237, 3)
def X15_book_B17 (a0 : Nat) (h : AH) : Option (Int32 × AH) :=
  G (xc h a0 = 15) <|
  BN (X15_refused_f a0 (nI 2) h) fun v3 h2 =>
  some (v3, h2)
theorem jX15_book_B17 (x : CT) (a0 : Nat) (h : AH) : J x qX15_book ZI 17 [(0, rv (zx x) a0)] [] h (X15_book_B17 a0 h) := by
  unfold X15_book_B17
  refine J_aload_n 0 dX15_book_17 rv_is rfl ?_
  refine J_iconst (v := nI 2) dX15_book_18 rfl ?_
  refine J_G (fun g1 => ?_)
  refine J.callV (n := 1) (As := [.int (nI 2)]) kc_15 (ctX15_refused (lx x) (wx x) a0 (nI 2) h) kw_7_139 kw_7_136 kw_7_138 kp_8 kw_1_13 (by decide +kernel) rfl (by decide) (Nat.zero_le _) rfl dX15_book_19 g1 (fun v3 h2 => ?_)
  show J x _ _ 22 _ [.int v3] h2 _
  exact J_iret dX15_book_22
def X15_book_B65 (a0 : Nat) (as0 : Nat) (h : AH) : Option (Int32 × AH) :=
  G (xc h as0 = 14) <|
  G (xc h a0 = 15) <|
  LT (pI h a0 3 (xI h as0 6)) fun h3 =>
  G (xc h3 a0 = 15) <|
  LT (pI h3 a0 1 (nI 4)) fun h5 =>
  G (xc h5 as0 = 14) <|
  G (xc h5 a0 = 15) <|
  LT (pI h5 a0 2 (xI h5 as0 7)) fun h8 =>
  some ((-1), h8)
theorem jX15_book_B65 (x : CT) (a0 : Nat) (as0 : Nat) (h : AH) : J x qX15_book ZI 65 [(0, rv (zx x) a0)] [rv (zx x) as0] h (X15_book_B65 a0 as0 h) := by
  unfold X15_book_B65
  refine J_astore_n rv_is dX15_book_65 (by decide) (SD.a (lvr := [(0, rv (zx x) a0)]) [0] rfl rfl) ?_
  refine J_aload_n 1 dX15_book_66 rv_is rfl ?_
  refine J_aload_n 0 dX15_book_67 rv_is rfl ?_
  refine J_G (fun g1 => ?_)
  refine J_getIN kc_14 6 (by decide) rfl rfl kn_17 dX15_book_68 g1 ?_
  refine J_G (fun g2 => ?_)
  refine J_putI kc_15 3 (by decide) rfl rfl rfl rfl (Or.inl rfl) kw_6_213 dX15_book_71 g2 ?_
  refine J_LTh (fun h3 => ?_)
  refine J_aload_n 1 dX15_book_74 rv_is rfl ?_
  refine J_iconst (v := nI 4) dX15_book_75 rfl ?_
  refine J_G (fun g4 => ?_)
  refine J_putI kc_15 1 (by decide) rfl rfl rfl rfl (Or.inl rfl) kw_6_211 dX15_book_76 g4 ?_
  refine J_LTh (fun h5 => ?_)
  refine J_aload_n 1 dX15_book_79 rv_is rfl ?_
  refine J_aload_n 0 dX15_book_80 rv_is rfl ?_
  refine J_G (fun g6 => ?_)
  refine J_getIN kc_14 7 (by decide) rfl rfl kn_18 dX15_book_81 g6 ?_
  refine J_G (fun g7 => ?_)
  refine J_putI kc_15 2 (by decide) rfl rfl rfl rfl (Or.inl rfl) kw_6_212 dX15_book_84 g7 ?_
  refine J_LTh (fun h8 => ?_)
  refine J_iconst (v := (-1)) dX15_book_87 rfl ?_
  exact J_iret dX15_book_88
def X15_book_B131 (a0 : Nat) (h : AH) : Option (Int32 × AH) :=
  G (xc h a0 = 15) <|
  G (xc h (xR h a0 4) = 12) <|
  LT (pI h a0 15 (((nI 1) <<< ((xI h (xR h a0 4) 4) &&& 31)) - (nI 1))) fun h3 =>
  G (xc h3 a0 = 15) <|
  LT (pI h3 a0 16 (nI 0)) fun h5 =>
  G (xc h5 a0 = 15) <|
  LT (pI h5 a0 17 (nI 0)) fun h7 =>
  G (xc h7 a0 = 15) <|
  LT (pI h7 a0 18 (nI 0)) fun h9 =>
  G (xc h9 a0 = 15) <|
  LT (pI h9 a0 40 (-1)) fun h11 =>
  G (xc h11 a0 = 15) <|
  LT (pI h11 a0 41 (-1)) fun h13 =>
  G (xc h13 a0 = 15) <|
  LT (pI h13 a0 42 (nI 0)) fun h15 =>
  G (xc h15 a0 = 15) <|
  LT (pI h15 a0 43 (nI 0)) fun h17 =>
  G (xc h17 a0 = 15) <|
  LT (pI h17 a0 47 (-1)) fun h19 =>
  G (xc h19 a0 = 15) <|
  G (xc h19 (xR h19 a0 4) = 12) <|
  LT (pI h19 a0 23 (xI h19 (xR h19 a0 4) 7)) fun h22 =>
  G (xc h22 a0 = 15) <|
  LT (pI h22 a0 24 (nI 0)) fun h24 =>
  G (xc h24 a0 = 15) <|
  LT (pI h24 a0 25 (nI 0)) fun h26 =>
  G (xc h26 a0 = 15) <|
  G (xc h26 (xR h26 a0 4) = 12) <|
  BN (X15_done_f a0 ((xI h26 (xR h26 a0 4) 5) + (xI h26 (xR h26 a0 4) 6)) h26) fun v30 h29 =>
  some (v30, h29)
theorem jX15_book_B131 (x : CT) (a0 : Nat) (h : AH) : J x qX15_book ZI 131 [(0, rv (zx x) a0)] [] h (X15_book_B131 a0 h) := by
  unfold X15_book_B131
  refine J_aload_n 0 dX15_book_131 rv_is rfl ?_
  refine J_iconst (v := nI 1) dX15_book_132 rfl ?_
  refine J_aload_n 0 dX15_book_133 rv_is rfl ?_
  refine J_G (fun g1 => ?_)
  refine J_getR kc_15 4 (by decide) rfl rfl kw_6_214 dX15_book_134 g1 ?_
  refine J_G (fun g2 => ?_)
  refine J_getIN kc_12 4 (by decide) rfl rfl kn_28 dX15_book_137 g2 ?_
  refine J_ishl dX15_book_140 ?_
  refine J_iconst (v := nI 1) dX15_book_141 rfl ?_
  refine J_isub dX15_book_142 ?_
  refine J_putI kc_15 15 (by decide) rfl rfl rfl rfl (Or.inl rfl) kw_6_225 dX15_book_143 g1 ?_
  refine J_LTh (fun h3 => ?_)
  refine J_aload_n 0 dX15_book_146 rv_is rfl ?_
  refine J_iconst (v := nI 0) dX15_book_147 rfl ?_
  refine J_G (fun g4 => ?_)
  refine J_putI kc_15 16 (by decide) rfl rfl rfl rfl (Or.inl rfl) kw_6_226 dX15_book_148 g4 ?_
  refine J_LTh (fun h5 => ?_)
  refine J_aload_n 0 dX15_book_151 rv_is rfl ?_
  refine J_iconst (v := nI 0) dX15_book_152 rfl ?_
  refine J_G (fun g6 => ?_)
  refine J_putI kc_15 17 (by decide) rfl rfl rfl rfl (Or.inl rfl) kw_6_227 dX15_book_153 g6 ?_
  refine J_LTh (fun h7 => ?_)
  refine J_aload_n 0 dX15_book_156 rv_is rfl ?_
  refine J_iconst (v := nI 0) dX15_book_157 rfl ?_
  refine J_G (fun g8 => ?_)
  refine J_putI kc_15 18 (by decide) rfl rfl rfl rfl (Or.inl rfl) kw_6_228 dX15_book_158 g8 ?_
  refine J_LTh (fun h9 => ?_)
  refine J_aload_n 0 dX15_book_161 rv_is rfl ?_
  refine J_iconst (v := (-1)) dX15_book_162 rfl ?_
  refine J_G (fun g10 => ?_)
  refine J_putI kc_15 40 (by decide) rfl rfl rfl rfl (Or.inl rfl) kw_7_10 dX15_book_163 g10 ?_
  refine J_LTh (fun h11 => ?_)
  refine J_aload_n 0 dX15_book_166 rv_is rfl ?_
  refine J_iconst (v := (-1)) dX15_book_167 rfl ?_
  refine J_G (fun g12 => ?_)
  refine J_putI kc_15 41 (by decide) rfl rfl rfl rfl (Or.inl rfl) kw_7_11 dX15_book_168 g12 ?_
  refine J_LTh (fun h13 => ?_)
  refine J_aload_n 0 dX15_book_171 rv_is rfl ?_
  refine J_iconst (v := nI 0) dX15_book_172 rfl ?_
  refine J_G (fun g14 => ?_)
  refine J_putI kc_15 42 (by decide) rfl rfl rfl rfl (Or.inl rfl) kw_7_12 dX15_book_173 g14 ?_
  refine J_LTh (fun h15 => ?_)
  refine J_aload_n 0 dX15_book_176 rv_is rfl ?_
  refine J_iconst (v := nI 0) dX15_book_177 rfl ?_
  refine J_G (fun g16 => ?_)
  refine J_putI kc_15 43 (by decide) rfl rfl rfl rfl (Or.inl rfl) kw_7_13 dX15_book_178 g16 ?_
  refine J_LTh (fun h17 => ?_)
  refine J_aload_n 0 dX15_book_181 rv_is rfl ?_
  refine J_iconst (v := (-1)) dX15_book_182 rfl ?_
  refine J_G (fun g18 => ?_)
  refine J_putI kc_15 47 (by decide) rfl rfl rfl rfl (Or.inl rfl) kw_7_17 dX15_book_183 g18 ?_
  refine J_LTh (fun h19 => ?_)
  refine J_aload_n 0 dX15_book_186 rv_is rfl ?_
  refine J_aload_n 0 dX15_book_187 rv_is rfl ?_
  refine J_G (fun g20 => ?_)
  refine J_getR kc_15 4 (by decide) rfl rfl kw_6_214 dX15_book_188 g20 ?_
  refine J_G (fun g21 => ?_)
  refine J_getIN kc_12 7 (by decide) rfl rfl kn_31 dX15_book_191 g21 ?_
  refine J_putI kc_15 23 (by decide) rfl rfl rfl rfl (Or.inl rfl) kw_6_233 dX15_book_194 g20 ?_
  refine J_LTh (fun h22 => ?_)
  refine J_aload_n 0 dX15_book_197 rv_is rfl ?_
  refine J_iconst (v := nI 0) dX15_book_198 rfl ?_
  refine J_G (fun g23 => ?_)
  refine J_putI kc_15 24 (by decide) rfl rfl rfl rfl (Or.inl rfl) kw_6_234 dX15_book_199 g23 ?_
  refine J_LTh (fun h24 => ?_)
  refine J_aload_n 0 dX15_book_202 rv_is rfl ?_
  refine J_iconst (v := nI 0) dX15_book_203 rfl ?_
  refine J_G (fun g25 => ?_)
  refine J_putI kc_15 25 (by decide) rfl rfl rfl rfl (Or.inl rfl) kw_6_235 dX15_book_204 g25 ?_
  refine J_LTh (fun h26 => ?_)
  refine J_aload_n 0 dX15_book_207 rv_is rfl ?_
  refine J_aload_n 0 dX15_book_208 rv_is rfl ?_
  refine J_G (fun g27 => ?_)
  refine J_getR kc_15 4 (by decide) rfl rfl kw_6_214 dX15_book_209 g27 ?_
  refine J_G (fun g28 => ?_)
  refine J_getIN kc_12 5 (by decide) rfl rfl kn_29 dX15_book_212 g28 ?_
  refine J_aload_n 0 dX15_book_215 rv_is rfl ?_
  refine J_getR kc_15 4 (by decide) rfl rfl kw_6_214 dX15_book_216 g27 ?_
  refine J_getIN kc_12 6 (by decide) rfl rfl kn_30 dX15_book_219 g28 ?_
  refine J_iadd dX15_book_222 ?_
  refine J.callV (n := 1) (As := [.int ((xI h26 (xR h26 a0 4) 5) + (xI h26 (xR h26 a0 4) 6))]) kc_15 (ctX15_done (lx x) (wx x) a0 ((xI h26 (xR h26 a0 4) 5) + (xI h26 (xR h26 a0 4) 6)) h26) kw_8_103 kw_8_100 kw_8_102 kp_24 kw_1_13 (by decide +kernel) rfl (by decide) (Nat.zero_le _) rfl dX15_book_223 g27 (fun v30 h29 => ?_)
  show J x _ _ 226 _ [.int v30] h29 _
  exact J_iret dX15_book_226
def X15_book_B124 (k104 : (Nat → Int32 → AH → Option (Int32 × AH))) (a0 : Nat) (i2 : Int32) (is0 : Int32) (is1 : Int32) (as2 : Nat) (h : AH) : Option (Int32 × AH) :=
  G (xc h as2 = 16) <|
  G (gx is1 (xz h as2)) <|
  LT (pI h as2 is1.toNatClampNeg is0) fun h3 =>
  LT (i2 + nI 1) fun v4 =>
  k104 a0 v4 h3
theorem jX15_book_B124 (x : CT) (k104 : (Nat → Int32 → AH → Option (Int32 × AH))) (hk104 : ∀ (a0 : Nat) (i2 : Int32) (h : AH), J x qX15_book ZI 104 [(0, rv (zx x) a0), (2, .int i2)] [] h (k104 a0 i2 h)) (a0 : Nat) (i2 : Int32) (is0 : Int32) (is1 : Int32) (as2 : Nat) (h : AH) : J x qX15_book ZI 124 [(0, rv (zx x) a0), (2, .int i2)] [.int is0, .int is1, rv (zx x) as2] h (X15_book_B124 k104 a0 i2 is0 is1 as2 h) := by
  unfold X15_book_B124
  refine J_G (fun g1 => ?_)
  refine J_G (fun g2 => ?_)
  refine J_iast dX15_book_124 g1 g2 ?_
  refine J_LTh (fun h3 => ?_)
  refine J_iincL (u := i2 + nI 1) 1 dX15_book_125 rfl rfl (by decide) (SD.a (lvr := [(0, rv (zx x) a0)]) [0] rfl rfl) (fun v4 => ?_)
  refine J_goto (tgt := 104) dX15_book_128 rfl ?_
  exact J_sub [1, 0] rfl (hk104 a0 v4 h3)
def X15_book_B104 : Nat → Nat → Int32 → AH → Option (Int32 × AH)
  | 0, _, _, _ => none
  | n + 1, a0, i2, h =>
    if (nI 4) ≤ i2 then (
      X15_book_B131 a0 h
    ) else (
      G (xc h a0 = 15) <|
      if (nI 2) ≤ i2 then (
        X15_book_B124 (X15_book_B104 n) a0 i2 (nI 0) i2 (xR h a0 19) h
      ) else (
        X15_book_B124 (X15_book_B104 n) a0 i2 (nI 1) i2 (xR h a0 19) h
      )
    )
theorem jX15_book_B104 (x : CT) : ∀ (n : Nat) (a0 : Nat) (i2 : Int32) (h : AH), J x qX15_book ZI 104 [(0, rv (zx x) a0), (2, .int i2)] [] h (X15_book_B104 n a0 i2 h) := by
  intro n
  induction n with
  | zero => intro a0 i2 h; exact J_none
  | succ n ih =>
    intro a0 i2 h
    unfold X15_book_B104
    refine J_iload_n 1 dX15_book_104 rfl ?_
    refine J_iconst (v := nI 4) dX15_book_105 rfl ?_
    refine J_icmp_ge (tgt := 131) dX15_book_106 rfl ?_ ?_
    · exact J_sub [0] rfl (jX15_book_B131 x a0 h)
    · refine J_aload_n 0 dX15_book_109 rv_is rfl ?_
      refine J_G (fun g1 => ?_)
      refine J_getR kc_15 19 (by decide) rfl rfl kw_6_229 dX15_book_110 g1 ?_
      refine J_iload_n 1 dX15_book_113 rfl ?_
      refine J_iload_n 1 dX15_book_114 rfl ?_
      refine J_iconst (v := nI 2) dX15_book_115 rfl ?_
      refine J_icmp_ge (tgt := 123) dX15_book_116 rfl ?_ ?_
      · refine J_iconst (v := nI 0) dX15_book_123 rfl ?_
        exact (jX15_book_B124 x (X15_book_B104 n) ih a0 i2 (nI 0) i2 (xR h a0 19) h)
      · refine J_iconst (v := nI 1) dX15_book_119 rfl ?_
        refine J_goto (tgt := 124) dX15_book_120 rfl ?_
        exact (jX15_book_B124 x (X15_book_B104 n) ih a0 i2 (nI 1) i2 (xR h a0 19) h)
def X15_book_f (a0 : Nat) (i1 : Int32) (h : AH) : Option (Int32 × AH) :=
  G (xc h a0 = 15) <|
  LT (pI h a0 0 (nI 0)) fun h2 =>
  if i1 < 0 then (
    X15_book_B17 a0 h2
  ) else (
    G (xc h2 a0 = 15) <|
    if i1 ≤ (xI h2 a0 8) then (
      G (xc h2 a0 = 15) <|
      LT (pI h2 a0 9 i1) fun h5 =>
      G (xc h5 a0 = 15) <|
      LT (pI h5 a0 8 (nI 0)) fun h7 =>
      G (xc h7 a0 = 15) <|
      LT (pI h7 a0 10 (nI 0)) fun h9 =>
      G (xc h9 a0 = 15) <|
      LT (pI h9 a0 3 (nI 0)) fun h11 =>
      LT (xn h11) fun r13 =>
      LT (pN h11 12 28) fun h12 =>
      G (xc h12 r13 ≠ 99) <|
      BN (X12_init_f r13 h12) fun _ h15 =>
      G (xc h15 a0 = 15) <|
      LT (pR h15 a0 5 r13) fun h17 =>
      G (xc h17 a0 = 15) <|
      BN (X15_next_f a0 h17) fun _ h19 =>
      G (xc h19 a0 = 15) <|
      BC 14 (X15_readBook_f a0 h19) (fun _ h21 =>
        G (xc h21 a0 = 15) <|
        LT (pR h21 a0 4 (xR h21 a0 5)) fun h26 =>
        G (xc h26 a0 = 15) <|
        LT (pI h26 a0 14 (nI 4)) fun h28 =>
        X15_book_B104 FU a0 (nI 0) h28
      ) (fun a22 h23 =>
        X15_book_B65 a0 a22 h23
      )
    ) else (
      X15_book_B17 a0 h2
    )
  )
theorem jX15_book (x : CT) (a0 : Nat) (i1 : Int32) (h : AH) : J x qX15_book ZI 0 [(0, rv (zx x) a0), (1, .int i1)] [] h (X15_book_f a0 i1 h) := by
  unfold X15_book_f
  refine J_aload_n 0 dX15_book_0 rv_is rfl ?_
  refine J_iconst (v := nI 0) dX15_book_1 rfl ?_
  refine J_G (fun g1 => ?_)
  refine J_putI kc_15 0 (by decide) rfl rfl rfl rfl (Or.inl rfl) kw_6_210 dX15_book_2 g1 ?_
  refine J_LTh (fun h2 => ?_)
  refine J_iload_n 1 dX15_book_5 rfl ?_
  refine J_if_lt (tgt := 17) dX15_book_6 rfl ?_ ?_
  · exact J_sub [0] rfl (jX15_book_B17 x a0 h2)
  · refine J_iload_n 1 dX15_book_9 rfl ?_
    refine J_aload_n 0 dX15_book_10 rv_is rfl ?_
    refine J_G (fun g3 => ?_)
    refine J_getI kc_15 8 (by decide) rfl rfl kw_6_218 dX15_book_11 g3 ?_
    refine J_icmp_le (tgt := 23) dX15_book_14 rfl ?_ ?_
    · refine J_aload_n 0 dX15_book_23 rv_is rfl ?_
      refine J_iload_n 1 dX15_book_24 rfl ?_
      refine J_G (fun g4 => ?_)
      refine J_putI kc_15 9 (by decide) rfl rfl rfl rfl (Or.inl rfl) kw_6_219 dX15_book_25 g4 ?_
      refine J_LTh (fun h5 => ?_)
      refine J_aload_n 0 dX15_book_28 rv_is rfl ?_
      refine J_iconst (v := nI 0) dX15_book_29 rfl ?_
      refine J_G (fun g6 => ?_)
      refine J_putI kc_15 8 (by decide) rfl rfl rfl rfl (Or.inl rfl) kw_6_218 dX15_book_30 g6 ?_
      refine J_LTh (fun h7 => ?_)
      refine J_aload_n 0 dX15_book_33 rv_is rfl ?_
      refine J_iconst (v := nI 0) dX15_book_34 rfl ?_
      refine J_G (fun g8 => ?_)
      refine J_putI kc_15 10 (by decide) rfl rfl rfl rfl (Or.inl rfl) kw_6_220 dX15_book_35 g8 ?_
      refine J_LTh (fun h9 => ?_)
      refine J_aload_n 0 dX15_book_38 rv_is rfl ?_
      refine J_iconst (v := nI 0) dX15_book_39 rfl ?_
      refine J_G (fun g10 => ?_)
      refine J_putI kc_15 3 (by decide) rfl rfl rfl rfl (Or.inl rfl) kw_6_213 dX15_book_40 g10 ?_
      refine J_LTh (fun h11 => ?_)
      refine J_aload_n 0 dX15_book_43 rv_is rfl ?_
      refine J_new kc_12 kw_7_140 kw_7_141 kw_1_24 dX15_book_44 ?_
      refine J_LTr (fun r13 => ?_)
      refine J_LTh (fun h12 => ?_)
      refine J_dup dX15_book_47 rv_cat ?_
      refine J_G (fun g14 => ?_)
      refine J.callIN (n := 0) (As := []) (ctX12_init (lx x) (wx x) r13 h12) kw_7_144 kn_23 kw_7_143 kw_1_24 (by decide +kernel) rfl (by decide) (by simp [rv_cat, cat_I, cat_L, cat_S]) rfl dX15_book_48 g14 (fun _ h15 => ?_)
      show J x _ _ 51 _ [rv (zx x) r13, rv (zx x) a0] h15 _
      refine J_G (fun g16 => ?_)
      refine J_putR kc_15 5 (by decide) rfl rfl (Or.inl ⟨_, rfl⟩) (Or.inl rfl) kw_6_215 dX15_book_51 g16 ?_
      refine J_LTh (fun h17 => ?_)
      refine J_aload_n 0 dX15_book_54 rv_is rfl ?_
      refine J_G (fun g18 => ?_)
      refine J.callV (n := 0) (As := []) kc_15 (ctX15_next (lx x) (wx x) a0 h17) kw_8_13 kw_8_10 kw_8_12 kp_9 kw_1_13 (by decide +kernel) rfl (by decide) (Nat.zero_le _) rfl dX15_book_55 g18 (fun _ h19 => ?_)
      show J x _ _ 58 _ [] h19 _
      refine J_aload_n 0 dX15_book_58 rv_is rfl ?_
      refine J_G (fun g20 => ?_)
      refine J.callVC (s0 := 54) (e0 := 62) (hp := 65) (ct := 13) (by decide +kernel) (by decide) (by decide) (En := RX14) kw_6_162 (by decide +kernel) gk_stop (n := 0) (As := []) kc_15 (ctX15_readBook (lx x) (wx x) a0 h19) kw_8_25 kw_8_22 kw_8_24 kp_11 kw_1_13 (by decide +kernel) rfl (by decide) (Nat.zero_le _) rfl dX15_book_59 g20 (fun _ h21 => ?_) (fun a22 h23 g24 => ?_)
      · show J x _ _ 62 _ [] h21 _
        refine J_goto (tgt := 89) dX15_book_62 rfl ?_
        refine J_aload_n 0 dX15_book_89 rv_is rfl ?_
        refine J_aload_n 0 dX15_book_90 rv_is rfl ?_
        refine J_G (fun g25 => ?_)
        refine J_getR kc_15 5 (by decide) rfl rfl kw_6_215 dX15_book_91 g25 ?_
        refine J_putR kc_15 4 (by decide) rfl rfl (Or.inl ⟨_, rfl⟩) (Or.inl rfl) kw_6_214 dX15_book_94 g25 ?_
        refine J_LTh (fun h26 => ?_)
        refine J_aload_n 0 dX15_book_97 rv_is rfl ?_
        refine J_iconst (v := nI 4) dX15_book_98 rfl ?_
        refine J_G (fun g27 => ?_)
        refine J_putI kc_15 14 (by decide) rfl rfl rfl rfl (Or.inl rfl) kw_6_224 dX15_book_99 g27 ?_
        refine J_LTh (fun h28 => ?_)
        refine J_iconst (v := nI 0) dX15_book_102 rfl ?_
        refine J_istore_n dX15_book_103 (by decide) (SD.a (lvr := [(0, rv (zx x) a0)]) [0] rfl rfl) ?_
        exact J_sub [1, 0] rfl (jX15_book_B104 x FU a0 (nI 0) h28)
      · exact J_sub [0] rfl (jX15_book_B65 x a0 a22 h23)
    · exact J_sub [0] rfl (jX15_book_B17 x a0 h2)
theorem ctX15_book (l : Launch) (w : WT) (a0 : Nat) (i1 : Int32) (h : AH) : CH l w yX15_book cX15_book 3 (some .int) [(54, 62, 65, 13)] 11 237 KI [rv (w.1) a0, .int i1] h (X15_book_f a0 i1 h) :=
  CH.of (by decide +kernel) (by simp [lg_sl, rv_cat, cat_I, cat_L, cat_S]) (lv := [(0, rv (w.1) a0), (1, .int i1)]) (by simp [lv_args, rv_cat, cat_I, cat_L, cat_S]) (fun x hx => by subst hx; exact jX15_book x a0 i1 h)
-- FallTrialsModel.runs(I[III)I
abbrev qX15_runs : MT := (cX15_runs, RX15, "runs", (some .int), 5, 119, 5)
def X15_runs_f (a0 : Nat) (i1 : Int32) (a2 : Nat) (i3 : Int32) (i4 : Int32) (h : AH) : Option (Int32 × AH) :=
  G (xc h a0 = 15) <|
  G (xc h (xR h a0 26) = 13) <|
  BN (X13_lay_f (xR h a0 26) a2 i3 i4 h) fun _ h3 =>
  G (xc h3 a0 = 15) <|
  BN (X15_goes_f a0 i1 h3) fun _ h5 =>
  G (xc h5 a0 = 15) <|
  BN (X15_outcome_f a0 i1 h5) fun v8 h7 =>
  some (v8, h7)
theorem jX15_runs (x : CT) (a0 : Nat) (i1 : Int32) (a2 : Nat) (i3 : Int32) (i4 : Int32) (h : AH) : J x qX15_runs ZI 0 [(0, rv (zx x) a0), (1, .int i1), (2, rv (zx x) a2), (3, .int i3), (4, .int i4)] [] h (X15_runs_f a0 i1 a2 i3 i4 h) := by
  unfold X15_runs_f
  refine J_aload_n 0 dX15_runs_0 rv_is rfl ?_
  refine J_G (fun g1 => ?_)
  refine J_getR kc_15 26 (by decide) rfl rfl kw_6_236 dX15_runs_1 g1 ?_
  refine J_aload_n 2 dX15_runs_4 rv_is rfl ?_
  refine J_iload_n 3 dX15_runs_5 rfl ?_
  refine J_iload 4 dX15_runs_6 rfl ?_
  refine J_G (fun g2 => ?_)
  refine J.callV (n := 3) (As := [rv (zx x) a2, .int i3, .int i4]) kc_13 (ctX13_lay (lx x) (wx x) (xR h a0 26) a2 i3 i4 h) kw_8_158 kw_8_155 kw_8_156 kw_8_157 kw_1_18 (by decide +kernel) rfl (by decide) (Nat.zero_le _) rfl dX15_runs_8 g2 (fun _ h3 => ?_)
  show J x _ _ 11 _ [] h3 _
  refine J_aload_n 0 dX15_runs_11 rv_is rfl ?_
  refine J_iload_n 1 dX15_runs_12 rfl ?_
  refine J_G (fun g4 => ?_)
  refine J.callV (n := 1) (As := [.int i1]) kc_15 (ctX15_goes (lx x) (wx x) a0 i1 h3) kw_8_162 kw_8_159 kw_8_161 kp_30 kw_1_13 (by decide +kernel) rfl (by decide) (Nat.zero_le _) rfl dX15_runs_13 g4 (fun _ h5 => ?_)
  show J x _ _ 16 _ [] h5 _
  refine J_aload_n 0 dX15_runs_16 rv_is rfl ?_
  refine J_iload_n 1 dX15_runs_17 rfl ?_
  refine J_G (fun g6 => ?_)
  refine J.callV (n := 1) (As := [.int i1]) kc_15 (ctX15_outcome (lx x) (wx x) a0 i1 h5) kw_8_209 kw_8_206 kw_8_208 kp_41 kw_1_13 (by decide +kernel) rfl (by decide) (Nat.zero_le _) rfl dX15_runs_18 g6 (fun v8 h7 => ?_)
  show J x _ _ 21 _ [.int v8] h7 _
  exact J_iret dX15_runs_21
theorem ctX15_runs (l : Launch) (w : WT) (a0 : Nat) (i1 : Int32) (a2 : Nat) (i3 : Int32) (i4 : Int32) (h : AH) : CM l w yX15_runs cX15_runs 5 (some .int) 5 119 KI [rv (w.1) a0, .int i1, rv (w.1) a2, .int i3, .int i4] h (X15_runs_f a0 i1 a2 i3 i4 h) :=
  CM.of (by decide +kernel) (by simp [lg_sl, rv_cat, cat_I, cat_L, cat_S]) (lv := [(0, rv (w.1) a0), (1, .int i1), (2, rv (w.1) a2), (3, .int i3), (4, .int i4)]) (by simp [lv_args, rv_cat, cat_I, cat_L, cat_S]) (fun x hx => by subst hx; exact jX15_runs x a0 i1 a2 i3 i4 h)
-- FallTrialsModel.there(III)I
abbrev qX15_there : MT := (cX15_there, RX15, "there", (some .int), 6, 143, 5)
def X15_there_B21 (a0 : Nat) (h : AH) : Option (Int32 × AH) :=
  G (xc h a0 = 15) <|
  BN (X15_refused_f a0 (nI 1) h) fun v3 h2 =>
  some (v3, h2)
theorem jX15_there_B21 (x : CT) (a0 : Nat) (h : AH) : J x qX15_there ZI 21 [(0, rv (zx x) a0)] [] h (X15_there_B21 a0 h) := by
  unfold X15_there_B21
  refine J_aload_n 0 dX15_there_21 rv_is rfl ?_
  refine J_iconst (v := nI 1) dX15_there_22 rfl ?_
  refine J_G (fun g1 => ?_)
  refine J.callV (n := 1) (As := [.int (nI 1)]) kc_15 (ctX15_refused (lx x) (wx x) a0 (nI 1) h) kw_7_139 kw_7_136 kw_7_138 kp_8 kw_1_13 (by decide +kernel) rfl (by decide) (Nat.zero_le _) rfl dX15_there_23 g1 (fun v3 h2 => ?_)
  show J x _ _ 26 _ [.int v3] h2 _
  exact J_iret dX15_there_26
def X15_there_B78 (is0 : Int32) (as1 : Nat) (h : AH) : Option (Int32 × AH) :=
  G (xc h as1 = 15) <|
  BN (X15_done_f as1 is0 h) fun v3 h2 =>
  some (v3, h2)
theorem jX15_there_B78 (x : CT) (is0 : Int32) (as1 : Nat) (h : AH) : J x qX15_there ZI 78 [] [.int is0, rv (zx x) as1] h (X15_there_B78 is0 as1 h) := by
  unfold X15_there_B78
  refine J_G (fun g1 => ?_)
  refine J.callV (n := 1) (As := [.int is0]) kc_15 (ctX15_done (lx x) (wx x) as1 is0 h) kw_8_103 kw_8_100 kw_8_102 kp_24 kw_1_13 (by decide +kernel) rfl (by decide) (Nat.zero_le _) rfl dX15_there_78 g1 (fun v3 h2 => ?_)
  show J x _ _ 81 _ [.int v3] h2 _
  exact J_iret dX15_there_81
def X15_there_f (a0 : Nat) (i1 : Int32) (i2 : Int32) (i3 : Int32) (h : AH) : Option (Int32 × AH) :=
  G (xc h a0 = 15) <|
  LT (pI h a0 0 (nI 0)) fun h2 =>
  G (xc h2 a0 = 15) <|
  BN (X15_isRow_f a0 i1 h2) fun v5 h4 =>
  if v5 = 0 then (
    X15_there_B21 a0 h4
  ) else (
    G (xc h4 a0 = 15) <|
    BN (X15_isMachine_f a0 i2 h4) fun v8 h7 =>
    if v8 = 0 then (
      X15_there_B21 a0 h7
    ) else (
      G (xc h7 a0 = 15) <|
      BN (X15_in_f i3 (nI 0) (xI h7 a0 14) h7) fun v11 h10 =>
      if v11 = 0 then (
        G (xc h10 a0 = 15) <|
        BN (X15_refused_f a0 (nI 2) h10) fun v20 h19 =>
        some (v20, h19)
      ) else (
        G (xc h10 a0 = 15) <|
        BN (X15_runs_f a0 (nI 0) (xR h10 a0 20) (nI 0) (xI h10 a0 16) h10) fun v14 h13 =>
        G (xc h13 a0 = 15) <|
        BN (X15_isThere_f a0 (nI 0) i1 i2 i3 h13) fun v17 h16 =>
        if v17 = 0 then (
          X15_there_B78 (nI 0) a0 h16
        ) else (
          X15_there_B78 (nI 1) a0 h16
        )
      )
    )
  )
theorem jX15_there (x : CT) (a0 : Nat) (i1 : Int32) (i2 : Int32) (i3 : Int32) (h : AH) : J x qX15_there ZI 0 [(0, rv (zx x) a0), (1, .int i1), (2, .int i2), (3, .int i3)] [] h (X15_there_f a0 i1 i2 i3 h) := by
  unfold X15_there_f
  refine J_aload_n 0 dX15_there_0 rv_is rfl ?_
  refine J_iconst (v := nI 0) dX15_there_1 rfl ?_
  refine J_G (fun g1 => ?_)
  refine J_putI kc_15 0 (by decide) rfl rfl rfl rfl (Or.inl rfl) kw_6_210 dX15_there_2 g1 ?_
  refine J_LTh (fun h2 => ?_)
  refine J_aload_n 0 dX15_there_5 rv_is rfl ?_
  refine J_iload_n 1 dX15_there_6 rfl ?_
  refine J_G (fun g3 => ?_)
  refine J.callV (n := 1) (As := [.int i1]) kc_15 (ctX15_isRow (lx x) (wx x) a0 i1 h2) kw_8_221 kw_8_218 kw_8_220 kp_43 kw_1_13 (by decide +kernel) rfl (by decide) (Nat.zero_le _) rfl dX15_there_7 g3 (fun v5 h4 => ?_)
  show J x _ _ 10 _ [.int v5] h4 _
  refine J_if_eq (tgt := 21) dX15_there_10 rfl ?_ ?_
  · exact J_sub [0] rfl (jX15_there_B21 x a0 h4)
  · refine J_aload_n 0 dX15_there_13 rv_is rfl ?_
    refine J_iload_n 2 dX15_there_14 rfl ?_
    refine J_G (fun g6 => ?_)
    refine J.callV (n := 1) (As := [.int i2]) kc_15 (ctX15_isMachine (lx x) (wx x) a0 i2 h4) kw_8_225 kw_8_222 kw_8_224 kp_44 kw_1_13 (by decide +kernel) rfl (by decide) (Nat.zero_le _) rfl dX15_there_15 g6 (fun v8 h7 => ?_)
    show J x _ _ 18 _ [.int v8] h7 _
    refine J_if_ne (tgt := 27) dX15_there_18 rfl ?_ ?_
    · refine J_iload_n 3 dX15_there_27 rfl ?_
      refine J_iconst (v := nI 0) dX15_there_28 rfl ?_
      refine J_aload_n 0 dX15_there_29 rv_is rfl ?_
      refine J_G (fun g9 => ?_)
      refine J_getI kc_15 14 (by decide) rfl rfl kw_6_224 dX15_there_30 g9 ?_
      refine J.callS (n := 3) (As := [.int i3, .int (nI 0), .int (xI h7 a0 14)]) (ctX15_in (lx x) (wx x) i3 (nI 0) (xI h7 a0 14) h7) kw_8_122 kw_8_120 kw_8_121 kw_1_13 (by decide +kernel) rfl (by decide) (Nat.zero_le _) rfl dX15_there_33 (fun v11 h10 => ?_)
      show J x _ _ 36 _ [.int v11] h10 _
      refine J_if_ne (tgt := 45) dX15_there_36 rfl ?_ ?_
      · refine J_aload_n 0 dX15_there_45 rv_is rfl ?_
        refine J_iconst (v := nI 0) dX15_there_46 rfl ?_
        refine J_aload_n 0 dX15_there_47 rv_is rfl ?_
        refine J_G (fun g12 => ?_)
        refine J_getR kc_15 20 (by decide) rfl rfl kw_6_230 dX15_there_48 g12 ?_
        refine J_iconst (v := nI 0) dX15_there_51 rfl ?_
        refine J_aload_n 0 dX15_there_52 rv_is rfl ?_
        refine J_getI kc_15 16 (by decide) rfl rfl kw_6_226 dX15_there_53 g12 ?_
        refine J.callV (n := 4) (As := [.int (nI 0), rv (zx x) (xR h10 a0 20), .int (nI 0), .int (xI h10 a0 16)]) kc_15 (ctX15_runs (lx x) (wx x) a0 (nI 0) (xR h10 a0 20) (nI 0) (xI h10 a0 16) h10) kw_8_154 kw_8_151 kw_8_153 kp_29 kw_1_13 (by decide +kernel) rfl (by decide) (Nat.zero_le _) rfl dX15_there_56 g12 (fun v14 h13 => ?_)
        show J x _ _ 59 _ [.int v14] h13 _
        refine J_istore dX15_there_59 (by decide) (SD.a (lvr := [(0, rv (zx x) a0), (1, .int i1), (2, .int i2), (3, .int i3)]) [0, 1, 2, 3] rfl rfl) ?_
        refine J_aload_n 1 dX15_there_61 rv_is rfl ?_
        refine J_aload_n 1 dX15_there_62 rv_is rfl ?_
        refine J_iconst (v := nI 0) dX15_there_63 rfl ?_
        refine J_iload_n 2 dX15_there_64 rfl ?_
        refine J_iload_n 3 dX15_there_65 rfl ?_
        refine J_iload_n 4 dX15_there_66 rfl ?_
        refine J_G (fun g15 => ?_)
        refine J.callV (n := 4) (As := [.int (nI 0), .int i1, .int i2, .int i3]) kc_15 (ctX15_isThere (lx x) (wx x) a0 (nI 0) i1 i2 i3 h13) kw_8_213 kw_8_210 kw_8_212 kp_42 kw_1_13 (by decide +kernel) rfl (by decide) (by simp [rv_cat, cat_I, cat_L, cat_S]) rfl dX15_there_67 g15 (fun v17 h16 => ?_)
        show J x _ _ 70 _ [.int v17, rv (zx x) a0] h16 _
        refine J_if_eq (tgt := 77) dX15_there_70 rfl ?_ ?_
        · refine J_iconst (v := nI 0) dX15_there_77 rfl ?_
          exact J_sub [] rfl (jX15_there_B78 x (nI 0) a0 h16)
        · refine J_iconst (v := nI 1) dX15_there_73 rfl ?_
          refine J_goto (tgt := 78) dX15_there_74 rfl ?_
          exact J_sub [] rfl (jX15_there_B78 x (nI 1) a0 h16)
      · refine J_aload_n 0 dX15_there_39 rv_is rfl ?_
        refine J_iconst (v := nI 2) dX15_there_40 rfl ?_
        refine J_G (fun g18 => ?_)
        refine J.callV (n := 1) (As := [.int (nI 2)]) kc_15 (ctX15_refused (lx x) (wx x) a0 (nI 2) h10) kw_7_139 kw_7_136 kw_7_138 kp_8 kw_1_13 (by decide +kernel) rfl (by decide) (Nat.zero_le _) rfl dX15_there_41 g18 (fun v20 h19 => ?_)
        show J x _ _ 44 _ [.int v20] h19 _
        exact J_iret dX15_there_44
    · exact J_sub [0] rfl (jX15_there_B21 x a0 h7)
theorem ctX15_there (l : Launch) (w : WT) (a0 : Nat) (i1 : Int32) (i2 : Int32) (i3 : Int32) (h : AH) : CM l w yX15_there cX15_there 5 (some .int) 6 143 KI [rv (w.1) a0, .int i1, .int i2, .int i3] h (X15_there_f a0 i1 i2 i3 h) :=
  CM.of (by decide +kernel) (by simp [lg_sl, rv_cat, cat_I, cat_L, cat_S]) (lv := [(0, rv (w.1) a0), (1, .int i1), (2, .int i2), (3, .int i3)]) (by simp [lv_args, rv_cat, cat_I, cat_L, cat_S]) (fun x hx => by subst hx; exact jX15_there x a0 i1 i2 i3 h)
-- FallTrialsModel.reasons(III)I
abbrev qX15_reasons : MT := (cX15_reasons, RX15, "reasons", (some .int), 6, 143, 5)
def X15_reasons_B21 (a0 : Nat) (h : AH) : Option (Int32 × AH) :=
  G (xc h a0 = 15) <|
  BN (X15_refused_f a0 (nI 1) h) fun v3 h2 =>
  some (v3, h2)
theorem jX15_reasons_B21 (x : CT) (a0 : Nat) (h : AH) : J x qX15_reasons ZI 21 [(0, rv (zx x) a0)] [] h (X15_reasons_B21 a0 h) := by
  unfold X15_reasons_B21
  refine J_aload_n 0 dX15_reasons_21 rv_is rfl ?_
  refine J_iconst (v := nI 1) dX15_reasons_22 rfl ?_
  refine J_G (fun g1 => ?_)
  refine J.callV (n := 1) (As := [.int (nI 1)]) kc_15 (ctX15_refused (lx x) (wx x) a0 (nI 1) h) kw_7_139 kw_7_136 kw_7_138 kp_8 kw_1_13 (by decide +kernel) rfl (by decide) (Nat.zero_le _) rfl dX15_reasons_23 g1 (fun v3 h2 => ?_)
  show J x _ _ 26 _ [.int v3] h2 _
  exact J_iret dX15_reasons_26
def X15_reasons_f (a0 : Nat) (i1 : Int32) (i2 : Int32) (i3 : Int32) (h : AH) : Option (Int32 × AH) :=
  G (xc h a0 = 15) <|
  LT (pI h a0 0 (nI 0)) fun h2 =>
  G (xc h2 a0 = 15) <|
  BN (X15_isRow_f a0 i1 h2) fun v5 h4 =>
  if v5 = 0 then (
    X15_reasons_B21 a0 h4
  ) else (
    G (xc h4 a0 = 15) <|
    BN (X15_isMachine_f a0 i2 h4) fun v8 h7 =>
    if v8 = 0 then (
      X15_reasons_B21 a0 h7
    ) else (
      G (xc h7 a0 = 15) <|
      BN (X15_in_f i3 (nI 0) (xI h7 a0 14) h7) fun v11 h10 =>
      if v11 = 0 then (
        G (xc h10 a0 = 15) <|
        BN (X15_refused_f a0 (nI 2) h10) fun v22 h21 =>
        some (v22, h21)
      ) else (
        G (xc h10 a0 = 15) <|
        BN (X15_runs_f a0 (nI 0) (xR h10 a0 20) (nI 0) (xI h10 a0 16) h10) fun v14 h13 =>
        G (xc h13 a0 = 15) <|
        BN (X15_reasonsOf_f a0 (nI 0) i1 i2 i3 h13) fun _ h16 =>
        G (xc h16 a0 = 15) <|
        BN (X15_done_f a0 (xI h16 a0 33) h16) fun v19 h18 =>
        some (v19, h18)
      )
    )
  )
theorem jX15_reasons (x : CT) (a0 : Nat) (i1 : Int32) (i2 : Int32) (i3 : Int32) (h : AH) : J x qX15_reasons ZI 0 [(0, rv (zx x) a0), (1, .int i1), (2, .int i2), (3, .int i3)] [] h (X15_reasons_f a0 i1 i2 i3 h) := by
  unfold X15_reasons_f
  refine J_aload_n 0 dX15_reasons_0 rv_is rfl ?_
  refine J_iconst (v := nI 0) dX15_reasons_1 rfl ?_
  refine J_G (fun g1 => ?_)
  refine J_putI kc_15 0 (by decide) rfl rfl rfl rfl (Or.inl rfl) kw_6_210 dX15_reasons_2 g1 ?_
  refine J_LTh (fun h2 => ?_)
  refine J_aload_n 0 dX15_reasons_5 rv_is rfl ?_
  refine J_iload_n 1 dX15_reasons_6 rfl ?_
  refine J_G (fun g3 => ?_)
  refine J.callV (n := 1) (As := [.int i1]) kc_15 (ctX15_isRow (lx x) (wx x) a0 i1 h2) kw_8_221 kw_8_218 kw_8_220 kp_43 kw_1_13 (by decide +kernel) rfl (by decide) (Nat.zero_le _) rfl dX15_reasons_7 g3 (fun v5 h4 => ?_)
  show J x _ _ 10 _ [.int v5] h4 _
  refine J_if_eq (tgt := 21) dX15_reasons_10 rfl ?_ ?_
  · exact J_sub [0] rfl (jX15_reasons_B21 x a0 h4)
  · refine J_aload_n 0 dX15_reasons_13 rv_is rfl ?_
    refine J_iload_n 2 dX15_reasons_14 rfl ?_
    refine J_G (fun g6 => ?_)
    refine J.callV (n := 1) (As := [.int i2]) kc_15 (ctX15_isMachine (lx x) (wx x) a0 i2 h4) kw_8_225 kw_8_222 kw_8_224 kp_44 kw_1_13 (by decide +kernel) rfl (by decide) (Nat.zero_le _) rfl dX15_reasons_15 g6 (fun v8 h7 => ?_)
    show J x _ _ 18 _ [.int v8] h7 _
    refine J_if_ne (tgt := 27) dX15_reasons_18 rfl ?_ ?_
    · refine J_iload_n 3 dX15_reasons_27 rfl ?_
      refine J_iconst (v := nI 0) dX15_reasons_28 rfl ?_
      refine J_aload_n 0 dX15_reasons_29 rv_is rfl ?_
      refine J_G (fun g9 => ?_)
      refine J_getI kc_15 14 (by decide) rfl rfl kw_6_224 dX15_reasons_30 g9 ?_
      refine J.callS (n := 3) (As := [.int i3, .int (nI 0), .int (xI h7 a0 14)]) (ctX15_in (lx x) (wx x) i3 (nI 0) (xI h7 a0 14) h7) kw_8_122 kw_8_120 kw_8_121 kw_1_13 (by decide +kernel) rfl (by decide) (Nat.zero_le _) rfl dX15_reasons_33 (fun v11 h10 => ?_)
      show J x _ _ 36 _ [.int v11] h10 _
      refine J_if_ne (tgt := 45) dX15_reasons_36 rfl ?_ ?_
      · refine J_aload_n 0 dX15_reasons_45 rv_is rfl ?_
        refine J_iconst (v := nI 0) dX15_reasons_46 rfl ?_
        refine J_aload_n 0 dX15_reasons_47 rv_is rfl ?_
        refine J_G (fun g12 => ?_)
        refine J_getR kc_15 20 (by decide) rfl rfl kw_6_230 dX15_reasons_48 g12 ?_
        refine J_iconst (v := nI 0) dX15_reasons_51 rfl ?_
        refine J_aload_n 0 dX15_reasons_52 rv_is rfl ?_
        refine J_getI kc_15 16 (by decide) rfl rfl kw_6_226 dX15_reasons_53 g12 ?_
        refine J.callV (n := 4) (As := [.int (nI 0), rv (zx x) (xR h10 a0 20), .int (nI 0), .int (xI h10 a0 16)]) kc_15 (ctX15_runs (lx x) (wx x) a0 (nI 0) (xR h10 a0 20) (nI 0) (xI h10 a0 16) h10) kw_8_154 kw_8_151 kw_8_153 kp_29 kw_1_13 (by decide +kernel) rfl (by decide) (Nat.zero_le _) rfl dX15_reasons_56 g12 (fun v14 h13 => ?_)
        show J x _ _ 59 _ [.int v14] h13 _
        refine J_istore dX15_reasons_59 (by decide) (SD.a (lvr := [(0, rv (zx x) a0), (1, .int i1), (2, .int i2), (3, .int i3)]) [0, 1, 2, 3] rfl rfl) ?_
        refine J_aload_n 1 dX15_reasons_61 rv_is rfl ?_
        refine J_iconst (v := nI 0) dX15_reasons_62 rfl ?_
        refine J_iload_n 2 dX15_reasons_63 rfl ?_
        refine J_iload_n 3 dX15_reasons_64 rfl ?_
        refine J_iload_n 4 dX15_reasons_65 rfl ?_
        refine J_G (fun g15 => ?_)
        refine J.callV (n := 4) (As := [.int (nI 0), .int i1, .int i2, .int i3]) kc_15 (ctX15_reasonsOf (lx x) (wx x) a0 (nI 0) i1 i2 i3 h13) kw_8_233 kw_8_230 kw_8_232 kp_45 kw_1_13 (by decide +kernel) rfl (by decide) (Nat.zero_le _) rfl dX15_reasons_66 g15 (fun _ h16 => ?_)
        show J x _ _ 69 _ [] h16 _
        refine J_aload_n 1 dX15_reasons_69 rv_is rfl ?_
        refine J_aload_n 1 dX15_reasons_70 rv_is rfl ?_
        refine J_G (fun g17 => ?_)
        refine J_getI kc_15 33 (by decide) rfl rfl kw_7_3 dX15_reasons_71 g17 ?_
        refine J.callV (n := 1) (As := [.int (xI h16 a0 33)]) kc_15 (ctX15_done (lx x) (wx x) a0 (xI h16 a0 33) h16) kw_8_103 kw_8_100 kw_8_102 kp_24 kw_1_13 (by decide +kernel) rfl (by decide) (Nat.zero_le _) rfl dX15_reasons_74 g17 (fun v19 h18 => ?_)
        show J x _ _ 77 _ [.int v19] h18 _
        exact J_iret dX15_reasons_77
      · refine J_aload_n 0 dX15_reasons_39 rv_is rfl ?_
        refine J_iconst (v := nI 2) dX15_reasons_40 rfl ?_
        refine J_G (fun g20 => ?_)
        refine J.callV (n := 1) (As := [.int (nI 2)]) kc_15 (ctX15_refused (lx x) (wx x) a0 (nI 2) h10) kw_7_139 kw_7_136 kw_7_138 kp_8 kw_1_13 (by decide +kernel) rfl (by decide) (Nat.zero_le _) rfl dX15_reasons_41 g20 (fun v22 h21 => ?_)
        show J x _ _ 44 _ [.int v22] h21 _
        exact J_iret dX15_reasons_44
    · exact J_sub [0] rfl (jX15_reasons_B21 x a0 h7)
theorem ctX15_reasons (l : Launch) (w : WT) (a0 : Nat) (i1 : Int32) (i2 : Int32) (i3 : Int32) (h : AH) : CM l w yX15_reasons cX15_reasons 5 (some .int) 6 143 KI [rv (w.1) a0, .int i1, .int i2, .int i3] h (X15_reasons_f a0 i1 i2 i3 h) :=
  CM.of (by decide +kernel) (by simp [lg_sl, rv_cat, cat_I, cat_L, cat_S]) (lv := [(0, rv (w.1) a0), (1, .int i1), (2, .int i2), (3, .int i3)]) (by simp [lv_args, rv_cat, cat_I, cat_L, cat_S]) (fun x hx => by subst hx; exact jX15_reasons x a0 i1 i2 i3 h)
