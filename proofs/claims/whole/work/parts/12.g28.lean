-- FallTrials$Reader.readPromise()Z
abbrev qX6_readPromise : MT := (cX6_readPromise, RX6, "readPromise", (some .boolean), 8, 173, 1)
def X6_readPromise_B96 (h : AH) : Option (Int32 × AH) :=
  some (nI 1, h)
theorem jX6_readPromise_B96 (x : CT) (h : AH) : J x qX6_readPromise ZI 96 [] [] h (X6_readPromise_B96 h) := by
  unfold X6_readPromise_B96
  refine J_iconst (v := nI 1) dX6_readPromise_96 rfl ?_
  refine J_goto (tgt := 101) dX6_readPromise_97 rfl ?_
  exact J_zret dX6_readPromise_101 (by decide)
def X6_readPromise_f (a0 : Nat) (h : AH) : Option (Int32 × AH) :=
  G (xc h a0 = 6) <|
  G (xc h (xR h a0 10) = 0) <|
  BN (X6_readPlaces_f a0 (xR h (xR h a0 10) 12) 0 h) fun v4 h3 =>
  G (xc h3 (xR h a0 10) = 0) <|
  LT (pI h3 (xR h a0 10) 14 v4) fun h6 =>
  G (xc h6 a0 = 6) <|
  G (xc h6 (xR h6 a0 10) = 0) <|
  if (xI h6 (xR h6 a0 10) 14) = (-1) then (
    some (nI 0, h6)
  ) else (
    G (xc h6 a0 = 6) <|
    BN (X6_spells_f a0 3 h6) fun v11 h10 =>
    if v11 = 0 then (
      G (xc h10 a0 = 6) <|
      BN (X6_flawed_f a0 (nI 1) h10) fun v26 h25 =>
      G (bz v26) <|
      some (v26, h25)
    ) else (
      G (xc h10 a0 = 6) <|
      G (xc h10 (xR h10 a0 10) = 0) <|
      BN (X6_readPlaces_f a0 (xR h10 (xR h10 a0 10) 13) 11 h10) fun v15 h14 =>
      G (xc h14 (xR h10 a0 10) = 0) <|
      LT (pI h14 (xR h10 a0 10) 15 v15) fun h17 =>
      G (xc h17 a0 = 6) <|
      G (xc h17 (xR h17 a0 10) = 0) <|
      if (xI h17 (xR h17 a0 10) 15) = (-1) then (
        some (nI 0, h17)
      ) else (
        G (xc h17 a0 = 6) <|
        if (xI h17 a0 8) = 0 then (
          X6_readPromise_B96 h17
        ) else (
          G (xc h17 a0 = 6) <|
          BN (X6_flawed_f a0 (nI 1) h17) fun v23 h22 =>
          if v23 = 0 then (
            some (nI 0, h22)
          ) else (
            X6_readPromise_B96 h22
          )
        )
      )
    )
  )
theorem jX6_readPromise (x : CT) (a0 : Nat) (h : AH) : J x qX6_readPromise ZI 0 [(0, rv (zx x) a0)] [] h (X6_readPromise_f a0 h) := by
  unfold X6_readPromise_f
  refine J_aload_n 0 dX6_readPromise_0 rv_is rfl ?_
  refine J_G (fun g1 => ?_)
  refine J_getR kc_6 10 (by decide) rfl rfl kw_1_218 dX6_readPromise_1 g1 ?_
  refine J_aload_n 0 dX6_readPromise_4 rv_is rfl ?_
  refine J_aload_n 0 dX6_readPromise_5 rv_is rfl ?_
  refine J_getR kc_6 10 (by decide) rfl rfl kw_1_218 dX6_readPromise_6 g1 ?_
  refine J_G (fun g2 => ?_)
  refine J_getR kc_0 12 (by decide) rfl rfl kw_1_152 dX6_readPromise_9 g2 ?_
  refine J_ldcS (i := 0) (tx := "and") (index := 117) (by decide +kernel) dX6_readPromise_12 ?_
  refine J.callV (n := 2) (As := [rv (zx x) (xR h (xR h a0 10) 12), sv (wx x) 0]) kc_6 (ctX6_readPlaces (lx x) (wx x) a0 (xR h (xR h a0 10) 12) 0 h) kw_3_192 kw_3_189 kw_3_190 kw_3_191 kw_1_4 (by decide +kernel) rfl (by decide) (by simp [rv_cat, cat_I, cat_L, cat_S]) rfl dX6_readPromise_14 g1 (fun v4 h3 => ?_)
  show J x _ _ 17 _ [.int v4, rv (zx x) (xR h a0 10)] h3 _
  refine J_G (fun g5 => ?_)
  refine J_putI kc_0 14 (by decide) rfl rfl rfl rfl (Or.inl rfl) kw_1_160 dX6_readPromise_17 g5 ?_
  refine J_LTh (fun h6 => ?_)
  refine J_aload_n 0 dX6_readPromise_20 rv_is rfl ?_
  refine J_G (fun g7 => ?_)
  refine J_getR kc_6 10 (by decide) rfl rfl kw_1_218 dX6_readPromise_21 g7 ?_
  refine J_G (fun g8 => ?_)
  refine J_getI kc_0 14 (by decide) rfl rfl kw_1_160 dX6_readPromise_24 g8 ?_
  refine J_iconst (v := (-1)) dX6_readPromise_27 rfl ?_
  refine J_icmp_ne (tgt := 33) dX6_readPromise_28 rfl ?_ ?_
  · refine J_aload_n 0 dX6_readPromise_33 rv_is rfl ?_
    refine J_ldcS (i := 3) (tx := "gives") (index := 222) (by decide +kernel) dX6_readPromise_34 ?_
    refine J_G (fun g9 => ?_)
    refine J.callV (n := 1) (As := [sv (wx x) 3]) kc_6 (ctX6_spells (lx x) (wx x) a0 3 h6) kw_3_135 kw_3_132 kw_3_133 kw_3_134 kw_1_4 (by decide +kernel) rfl (by decide) (Nat.zero_le _) rfl dX6_readPromise_36 g9 (fun v11 h10 => ?_)
    show J x _ _ 39 _ [.int v11] h10 _
    refine J_if_ne (tgt := 48) dX6_readPromise_39 rfl ?_ ?_
    · refine J_aload_n 0 dX6_readPromise_48 rv_is rfl ?_
      refine J_G (fun g12 => ?_)
      refine J_getR kc_6 10 (by decide) rfl rfl kw_1_218 dX6_readPromise_49 g12 ?_
      refine J_aload_n 0 dX6_readPromise_52 rv_is rfl ?_
      refine J_aload_n 0 dX6_readPromise_53 rv_is rfl ?_
      refine J_getR kc_6 10 (by decide) rfl rfl kw_1_218 dX6_readPromise_54 g12 ?_
      refine J_G (fun g13 => ?_)
      refine J_getR kc_0 13 (by decide) rfl rfl kw_1_157 dX6_readPromise_57 g13 ?_
      refine J_ldcS (i := 11) (tx := "or") (index := 119) (by decide +kernel) dX6_readPromise_60 ?_
      refine J.callV (n := 2) (As := [rv (zx x) (xR h10 (xR h10 a0 10) 13), sv (wx x) 11]) kc_6 (ctX6_readPlaces (lx x) (wx x) a0 (xR h10 (xR h10 a0 10) 13) 11 h10) kw_3_192 kw_3_189 kw_3_190 kw_3_191 kw_1_4 (by decide +kernel) rfl (by decide) (by simp [rv_cat, cat_I, cat_L, cat_S]) rfl dX6_readPromise_62 g12 (fun v15 h14 => ?_)
      show J x _ _ 65 _ [.int v15, rv (zx x) (xR h10 a0 10)] h14 _
      refine J_G (fun g16 => ?_)
      refine J_putI kc_0 15 (by decide) rfl rfl rfl rfl (Or.inl rfl) kw_1_165 dX6_readPromise_65 g16 ?_
      refine J_LTh (fun h17 => ?_)
      refine J_aload_n 0 dX6_readPromise_68 rv_is rfl ?_
      refine J_G (fun g18 => ?_)
      refine J_getR kc_6 10 (by decide) rfl rfl kw_1_218 dX6_readPromise_69 g18 ?_
      refine J_G (fun g19 => ?_)
      refine J_getI kc_0 15 (by decide) rfl rfl kw_1_165 dX6_readPromise_72 g19 ?_
      refine J_iconst (v := (-1)) dX6_readPromise_75 rfl ?_
      refine J_icmp_ne (tgt := 81) dX6_readPromise_76 rfl ?_ ?_
      · refine J_aload_n 0 dX6_readPromise_81 rv_is rfl ?_
        refine J_G (fun g20 => ?_)
        refine J_getI kc_6 8 (by decide) rfl rfl kw_1_215 dX6_readPromise_82 g20 ?_
        refine J_if_eq (tgt := 96) dX6_readPromise_85 rfl ?_ ?_
        · exact J_sub [] rfl (jX6_readPromise_B96 x h17)
        · refine J_aload_n 0 dX6_readPromise_88 rv_is rfl ?_
          refine J_iconst (v := nI 1) dX6_readPromise_89 rfl ?_
          refine J_G (fun g21 => ?_)
          refine J.callV (n := 1) (As := [.int (nI 1)]) kc_6 (ctX6_flawed (lx x) (wx x) a0 (nI 1) h17) kw_3_213 kw_3_210 kw_3_211 kw_3_212 kw_1_4 (by decide +kernel) rfl (by decide) (Nat.zero_le _) rfl dX6_readPromise_90 g21 (fun v23 h22 => ?_)
          show J x _ _ 93 _ [.int v23] h22 _
          refine J_if_eq (tgt := 100) dX6_readPromise_93 rfl ?_ ?_
          · refine J_iconst (v := nI 0) dX6_readPromise_100 rfl ?_
            exact J_zret dX6_readPromise_101 (by decide)
          · exact J_sub [] rfl (jX6_readPromise_B96 x h22)
      · refine J_iconst (v := nI 0) dX6_readPromise_79 rfl ?_
        exact J_zret dX6_readPromise_80 (by decide)
    · refine J_aload_n 0 dX6_readPromise_42 rv_is rfl ?_
      refine J_iconst (v := nI 1) dX6_readPromise_43 rfl ?_
      refine J_G (fun g24 => ?_)
      refine J.callV (n := 1) (As := [.int (nI 1)]) kc_6 (ctX6_flawed (lx x) (wx x) a0 (nI 1) h10) kw_3_213 kw_3_210 kw_3_211 kw_3_212 kw_1_4 (by decide +kernel) rfl (by decide) (Nat.zero_le _) rfl dX6_readPromise_44 g24 (fun v26 h25 => ?_)
      show J x _ _ 47 _ [.int v26] h25 _
      refine J_G (fun g27 => ?_)
      exact J_zret dX6_readPromise_47 g27
  · refine J_iconst (v := nI 0) dX6_readPromise_31 rfl ?_
    exact J_zret dX6_readPromise_32 (by decide)
theorem ctX6_readPromise (l : Launch) (w : WT) (a0 : Nat) (h : AH) : CM l w yX6_readPromise cX6_readPromise 1 (some .boolean) 8 173 KI [rv (w.1) a0] h (X6_readPromise_f a0 h) :=
  CM.of (by decide +kernel) (by simp [lg_sl, rv_cat, cat_I, cat_L, cat_S]) (lv := [(0, rv (w.1) a0)]) (by simp [lv_args, rv_cat, cat_I, cat_L, cat_S]) (fun x hx => by subst hx; exact jX6_readPromise x a0 h)
-- FallTrials$Support.spoiledLanes(LFallTrials$Works;LFallTrials$Trace;LFallTrials$FallLanes;)J
abbrev qX7_spoiledLanes : MT := (cX7_spoiledLanes, RX7, "spoiledLanes", (some .long), 4, 106, 8)
def X7_spoiledLanes_B136 (l5 : Int64) (h : AH) : Option (Int64 × AH) :=
  some (l5 ^^^ (-1), h)
theorem jX7_spoiledLanes_B136 (x : CT) (l5 : Int64) (h : AH) : J x qX7_spoiledLanes ZL 136 [(5, .long l5)] [] h (X7_spoiledLanes_B136 l5 h) := by
  unfold X7_spoiledLanes_B136
  refine J_lload 0 dX7_spoiledLanes_136 rfl ?_
  refine J_ldc2 (v := (-1)) dX7_spoiledLanes_138 kw_5_52 ?_
  refine J_lxor dX7_spoiledLanes_141 ?_
  exact J_lret dX7_spoiledLanes_142
def X7_spoiledLanes_B95 : Nat → Nat → Int32 → Int64 → Int32 → AH → Option (Int64 × AH)
  | 0, _, _, _, _, _ => none
  | n + 1, a0, i4, l5, i7, h =>
    G (xc h a0 = 7) <|
    G (xc h (xR h a0 2) = 0) <|
    if (xI h (xR h a0 2) 15) ≤ i7 then (
      X7_spoiledLanes_B136 l5 h
    ) else (
      G (xc h a0 = 7) <|
      G (xc h (xR h a0 2) = 0) <|
      G (xc h (xR h (xR h a0 2) 13) = 16) <|
      G (gx i7 (xz h (xR h (xR h a0 2) 13))) <|
      G (xc h (xR h a0 0) = 17) <|
      G (gx (i4 + (xI h (xR h (xR h a0 2) 13) i7.toNatClampNeg)) (xz h (xR h a0 0))) <|
      LT (l5 ||| (xL h (xR h a0 0) (i4 + (xI h (xR h (xR h a0 2) 13) i7.toNatClampNeg)).toNatClampNeg)) fun w9 =>
      LT (i7 + nI 1) fun v10 =>
      X7_spoiledLanes_B95 n a0 i4 w9 v10 h
    )
theorem jX7_spoiledLanes_B95 (x : CT) : ∀ (n : Nat) (a0 : Nat) (i4 : Int32) (l5 : Int64) (i7 : Int32) (h : AH), J x qX7_spoiledLanes ZL 95 [(0, rv (zx x) a0), (4, .int i4), (5, .long l5), (7, .int i7)] [] h (X7_spoiledLanes_B95 n a0 i4 l5 i7 h) := by
  intro n
  induction n with
  | zero => intro a0 i4 l5 i7 h; exact J_none
  | succ n ih =>
    intro a0 i4 l5 i7 h
    unfold X7_spoiledLanes_B95
    refine J_iload 3 dX7_spoiledLanes_95 rfl ?_
    refine J_aload_n 0 dX7_spoiledLanes_97 rv_is rfl ?_
    refine J_G (fun g1 => ?_)
    refine J_getR kc_7 2 (by decide) rfl rfl kw_2_219 dX7_spoiledLanes_98 g1 ?_
    refine J_G (fun g2 => ?_)
    refine J_getI kc_0 15 (by decide) rfl rfl kw_1_162 dX7_spoiledLanes_101 g2 ?_
    refine J_icmp_ge (tgt := 136) dX7_spoiledLanes_104 rfl ?_ ?_
    · exact J_sub [2] rfl (jX7_spoiledLanes_B136 x l5 h)
    · refine J_lload 2 dX7_spoiledLanes_107 rfl ?_
      refine J_aload_n 0 dX7_spoiledLanes_109 rv_is rfl ?_
      refine J_G (fun g3 => ?_)
      refine J_getR kc_7 0 (by decide) rfl rfl kw_2_216 dX7_spoiledLanes_110 g3 ?_
      refine J_iload 1 dX7_spoiledLanes_113 rfl ?_
      refine J_aload_n 0 dX7_spoiledLanes_115 rv_is rfl ?_
      refine J_getR kc_7 2 (by decide) rfl rfl kw_2_219 dX7_spoiledLanes_116 g3 ?_
      refine J_G (fun g4 => ?_)
      refine J_getR kc_0 13 (by decide) rfl rfl kw_1_154 dX7_spoiledLanes_119 g4 ?_
      refine J_iload 3 dX7_spoiledLanes_122 rfl ?_
      refine J_G (fun g5 => ?_)
      refine J_G (fun g6 => ?_)
      refine J_iald dX7_spoiledLanes_124 g5 g6 ?_
      refine J_iadd dX7_spoiledLanes_125 ?_
      refine J_G (fun g7 => ?_)
      refine J_G (fun g8 => ?_)
      refine J_lald dX7_spoiledLanes_126 g7 g8 ?_
      refine J_lor dX7_spoiledLanes_127 ?_
      refine J_LTl (fun w9 => ?_)
      refine J_lstore dX7_spoiledLanes_128 (by decide) (SD.a (lvr := [(0, rv (zx x) a0), (4, .int i4), (7, .int i7)]) [0, 1, 3] rfl rfl) rfl ?_
      refine J_iincL (u := i7 + nI 1) 3 dX7_spoiledLanes_130 rfl rfl (by decide) (SD.a (lvr := [(5, .long w9), (0, rv (zx x) a0), (4, .int i4)]) [0, 1, 2] rfl rfl) (fun v10 => ?_)
      refine J_goto (tgt := 95) dX7_spoiledLanes_133 rfl ?_
      exact J_sub [2, 3, 1, 0] rfl (ih a0 i4 w9 v10 h)
def X7_spoiledLanes_B73 (a0 : Nat) (h : AH) : Option (Int64 × AH) :=
  G (xc h a0 = 7) <|
  G (xc h (xR h a0 1) = 10) <|
  BN (X11_cell_f (xI h (xR h a0 1) 1) (nI 0) h) fun v4 h3 =>
  LT (v4 * (nI 10)) fun v5 =>
  LT (lN 0) fun w6 =>
  X7_spoiledLanes_B95 FU a0 v5 w6 (nI 0) h3
theorem jX7_spoiledLanes_B73 (x : CT) (a0 : Nat) (h : AH) : J x qX7_spoiledLanes ZL 73 [(0, rv (zx x) a0)] [] h (X7_spoiledLanes_B73 a0 h) := by
  unfold X7_spoiledLanes_B73
  refine J_aload_n 0 dX7_spoiledLanes_73 rv_is rfl ?_
  refine J_G (fun g1 => ?_)
  refine J_getR kc_7 1 (by decide) rfl rfl kw_2_218 dX7_spoiledLanes_74 g1 ?_
  refine J_G (fun g2 => ?_)
  refine J_getI kc_10 1 (by decide) rfl rfl kw_2_19 dX7_spoiledLanes_77 g2 ?_
  refine J_iconst (v := nI 0) dX7_spoiledLanes_80 rfl ?_
  refine J.callSN (n := 2) (As := [.int (xI h (xR h a0 1) 1), .int (nI 0)]) (ctX11_cell (lx x) (wx x) (xI h (xR h a0 1) 1) (nI 0) h) kw_4_149 kn_7 kw_4_148 kw_1_1 (by decide +kernel) rfl (by decide) (Nat.zero_le _) rfl dX7_spoiledLanes_81 (fun v4 h3 => ?_)
  show J x _ _ 84 _ [.int v4] h3 _
  refine J_bipush (v := nI 10) dX7_spoiledLanes_84 rfl ?_
  refine J_imul dX7_spoiledLanes_86 ?_
  refine J_LTi (fun v5 => ?_)
  refine J_istore dX7_spoiledLanes_87 (by decide) (SD.a (lvr := [(0, rv (zx x) a0)]) [0] rfl rfl) ?_
  refine J_lconst (v := lN 0) dX7_spoiledLanes_89 rfl ?_
  refine J_LTl (fun w6 => ?_)
  refine J_lstore dX7_spoiledLanes_90 (by decide) (SD.a (lvr := [(4, .int v5), (0, rv (zx x) a0)]) [0, 1] rfl rfl) rfl ?_
  refine J_iconst (v := nI 0) dX7_spoiledLanes_92 rfl ?_
  refine J_istore dX7_spoiledLanes_93 (by decide) (SD.a (lvr := [(5, .long w6), (4, .int v5), (0, rv (zx x) a0)]) [0, 1, 2] rfl rfl) ?_
  exact J_sub [3, 2, 1, 0] rfl (jX7_spoiledLanes_B95 x FU a0 v5 w6 (nI 0) h3)
def X7_spoiledLanes_B67 (k26 : (Nat → Int32 → AH → Option (Int64 × AH))) (a0 : Nat) (i4 : Int32) (h : AH) : Option (Int64 × AH) :=
  LT (i4 + nI 1) fun v1 =>
  k26 a0 v1 h
theorem jX7_spoiledLanes_B67 (x : CT) (k26 : (Nat → Int32 → AH → Option (Int64 × AH))) (hk26 : ∀ (a0 : Nat) (i4 : Int32) (h : AH), J x qX7_spoiledLanes ZL 26 [(0, rv (zx x) a0), (4, .int i4)] [] h (k26 a0 i4 h)) (a0 : Nat) (i4 : Int32) (h : AH) : J x qX7_spoiledLanes ZL 67 [(0, rv (zx x) a0), (4, .int i4)] [] h (X7_spoiledLanes_B67 k26 a0 i4 h) := by
  unfold X7_spoiledLanes_B67
  refine J_iincL (u := i4 + nI 1) 1 dX7_spoiledLanes_67 rfl rfl (by decide) (SD.a (lvr := [(0, rv (zx x) a0)]) [0] rfl rfl) (fun v1 => ?_)
  refine J_goto (tgt := 26) dX7_spoiledLanes_70 rfl ?_
  exact J_sub [1, 0] rfl (hk26 a0 v1 h)
def X7_spoiledLanes_B41 (k26 : (Nat → Int32 → AH → Option (Int64 × AH))) : Nat → Nat → Int32 → Int32 → AH → Option (Int64 × AH)
  | 0, _, _, _, _ => none
  | n + 1, a0, i4, i5, h =>
    G (xc h a0 = 7) <|
    G (xc h (xR h a0 2) = 0) <|
    if (xI h (xR h a0 2) 0) ≤ i5 then (
      X7_spoiledLanes_B67 k26 a0 i4 h
    ) else (
      G (xc h a0 = 7) <|
      BN (X7_settle_f a0 i5 i4 h) fun _ h4 =>
      LT (i5 + nI 1) fun v5 =>
      X7_spoiledLanes_B41 k26 n a0 i4 v5 h4
    )
theorem jX7_spoiledLanes_B41 (x : CT) (k26 : (Nat → Int32 → AH → Option (Int64 × AH))) (hk26 : ∀ (a0 : Nat) (i4 : Int32) (h : AH), J x qX7_spoiledLanes ZL 26 [(0, rv (zx x) a0), (4, .int i4)] [] h (k26 a0 i4 h)) : ∀ (n : Nat) (a0 : Nat) (i4 : Int32) (i5 : Int32) (h : AH), J x qX7_spoiledLanes ZL 41 [(0, rv (zx x) a0), (4, .int i4), (5, .int i5)] [] h (X7_spoiledLanes_B41 k26 n a0 i4 i5 h) := by
  intro n
  induction n with
  | zero => intro a0 i4 i5 h; exact J_none
  | succ n ih =>
    intro a0 i4 i5 h
    unfold X7_spoiledLanes_B41
    refine J_iload 2 dX7_spoiledLanes_41 rfl ?_
    refine J_aload_n 0 dX7_spoiledLanes_43 rv_is rfl ?_
    refine J_G (fun g1 => ?_)
    refine J_getR kc_7 2 (by decide) rfl rfl kw_2_219 dX7_spoiledLanes_44 g1 ?_
    refine J_G (fun g2 => ?_)
    refine J_getI kc_0 0 (by decide) rfl rfl kw_1_105 dX7_spoiledLanes_47 g2 ?_
    refine J_icmp_ge (tgt := 67) dX7_spoiledLanes_50 rfl ?_ ?_
    · exact J_sub [0, 1] rfl (jX7_spoiledLanes_B67 x k26 hk26 a0 i4 h)
    · refine J_aload_n 0 dX7_spoiledLanes_53 rv_is rfl ?_
      refine J_iload 2 dX7_spoiledLanes_54 rfl ?_
      refine J_iload 1 dX7_spoiledLanes_56 rfl ?_
      refine J_G (fun g3 => ?_)
      refine J.callV (n := 2) (As := [.int i5, .int i4]) kc_7 (ctX7_settle (lx x) (wx x) a0 i5 i4 h) kw_5_50 kw_5_47 kw_5_48 kw_5_49 kw_1_12 (by decide +kernel) rfl (by decide) (Nat.zero_le _) rfl dX7_spoiledLanes_58 g3 (fun _ h4 => ?_)
      show J x _ _ 61 _ [] h4 _
      refine J_iincL (u := i5 + nI 1) 2 dX7_spoiledLanes_61 rfl rfl (by decide) (SD.a (lvr := [(0, rv (zx x) a0), (4, .int i4)]) [0, 1] rfl rfl) (fun v5 => ?_)
      refine J_goto (tgt := 41) dX7_spoiledLanes_64 rfl ?_
      exact J_sub [1, 2, 0] rfl (ih a0 i4 v5 h4)
def X7_spoiledLanes_B26 : Nat → Nat → Int32 → AH → Option (Int64 × AH)
  | 0, _, _, _ => none
  | n + 1, a0, i4, h =>
    G (xc h a0 = 7) <|
    G (xc h (xR h a0 1) = 10) <|
    if (xI h (xR h a0 1) 1) < i4 then (
      X7_spoiledLanes_B73 a0 h
    ) else (
      X7_spoiledLanes_B41 (X7_spoiledLanes_B26 n) FU a0 i4 (nI 0) h
    )
theorem jX7_spoiledLanes_B26 (x : CT) : ∀ (n : Nat) (a0 : Nat) (i4 : Int32) (h : AH), J x qX7_spoiledLanes ZL 26 [(0, rv (zx x) a0), (4, .int i4)] [] h (X7_spoiledLanes_B26 n a0 i4 h) := by
  intro n
  induction n with
  | zero => intro a0 i4 h; exact J_none
  | succ n ih =>
    intro a0 i4 h
    unfold X7_spoiledLanes_B26
    refine J_iload 1 dX7_spoiledLanes_26 rfl ?_
    refine J_aload_n 0 dX7_spoiledLanes_28 rv_is rfl ?_
    refine J_G (fun g1 => ?_)
    refine J_getR kc_7 1 (by decide) rfl rfl kw_2_218 dX7_spoiledLanes_29 g1 ?_
    refine J_G (fun g2 => ?_)
    refine J_getI kc_10 1 (by decide) rfl rfl kw_2_19 dX7_spoiledLanes_32 g2 ?_
    refine J_icmp_gt (tgt := 73) dX7_spoiledLanes_35 rfl ?_ ?_
    · exact J_sub [0] rfl (jX7_spoiledLanes_B73 x a0 h)
    · refine J_iconst (v := nI 0) dX7_spoiledLanes_38 rfl ?_
      refine J_istore dX7_spoiledLanes_39 (by decide) (SD.a (lvr := [(0, rv (zx x) a0), (4, .int i4)]) [0, 1] rfl rfl) ?_
      exact J_sub [1, 2, 0] rfl (jX7_spoiledLanes_B41 x (X7_spoiledLanes_B26 n) ih FU a0 i4 (nI 0) h)
def X7_spoiledLanes_f (a0 : Nat) (a1 : Nat) (a2 : Nat) (a3 : Nat) (h : AH) : Option (Int64 × AH) :=
  G (xc h a0 = 7) <|
  LT (pR h a0 1 a1) fun h2 =>
  G (xc h2 a1 = 10) <|
  G (xc h2 a0 = 7) <|
  LT (pR h2 a0 2 (xR h2 a1 0)) fun h5 =>
  G (xc h5 a0 = 7) <|
  LT (pR h5 a0 3 a2) fun h7 =>
  G (xc h7 a0 = 7) <|
  LT (pR h7 a0 4 a3) fun h9 =>
  X7_spoiledLanes_B26 FU a0 (nI 0) h9
theorem jX7_spoiledLanes (x : CT) (a0 : Nat) (a1 : Nat) (a2 : Nat) (a3 : Nat) (h : AH) : J x qX7_spoiledLanes ZL 0 [(0, rv (zx x) a0), (1, rv (zx x) a1), (2, rv (zx x) a2), (3, rv (zx x) a3)] [] h (X7_spoiledLanes_f a0 a1 a2 a3 h) := by
  unfold X7_spoiledLanes_f
  refine J_aload_n 0 dX7_spoiledLanes_0 rv_is rfl ?_
  refine J_aload_n 1 dX7_spoiledLanes_1 rv_is rfl ?_
  refine J_G (fun g1 => ?_)
  refine J_putR kc_7 1 (by decide) rfl rfl (Or.inl ⟨_, rfl⟩) (Or.inl rfl) kw_2_218 dX7_spoiledLanes_2 g1 ?_
  refine J_LTh (fun h2 => ?_)
  refine J_aload_n 0 dX7_spoiledLanes_5 rv_is rfl ?_
  refine J_aload_n 1 dX7_spoiledLanes_6 rv_is rfl ?_
  refine J_G (fun g3 => ?_)
  refine J_getR kc_10 0 (by decide) rfl rfl kw_2_11 dX7_spoiledLanes_7 g3 ?_
  refine J_G (fun g4 => ?_)
  refine J_putR kc_7 2 (by decide) rfl rfl (Or.inl ⟨_, rfl⟩) (Or.inl rfl) kw_2_219 dX7_spoiledLanes_10 g4 ?_
  refine J_LTh (fun h5 => ?_)
  refine J_aload_n 0 dX7_spoiledLanes_13 rv_is rfl ?_
  refine J_aload_n 2 dX7_spoiledLanes_14 rv_is rfl ?_
  refine J_G (fun g6 => ?_)
  refine J_putR kc_7 3 (by decide) rfl rfl (Or.inl ⟨_, rfl⟩) (Or.inl rfl) kw_2_220 dX7_spoiledLanes_15 g6 ?_
  refine J_LTh (fun h7 => ?_)
  refine J_aload_n 0 dX7_spoiledLanes_18 rv_is rfl ?_
  refine J_aload_n 3 dX7_spoiledLanes_19 rv_is rfl ?_
  refine J_G (fun g8 => ?_)
  refine J_putR kc_7 4 (by decide) rfl rfl (Or.inl ⟨_, rfl⟩) (Or.inl rfl) kw_2_221 dX7_spoiledLanes_20 g8 ?_
  refine J_LTh (fun h9 => ?_)
  refine J_iconst (v := nI 0) dX7_spoiledLanes_23 rfl ?_
  refine J_istore dX7_spoiledLanes_24 (by decide) (SD.a (lvr := [(0, rv (zx x) a0)]) [0] rfl rfl) ?_
  exact J_sub [1, 0] rfl (jX7_spoiledLanes_B26 x FU a0 (nI 0) h9)
theorem ctX7_spoiledLanes (l : Launch) (w : WT) (a0 : Nat) (a1 : Nat) (a2 : Nat) (a3 : Nat) (h : AH) : CM l w yX7_spoiledLanes cX7_spoiledLanes 8 (some .long) 4 106 KL [rv (w.1) a0, rv (w.1) a1, rv (w.1) a2, rv (w.1) a3] h (X7_spoiledLanes_f a0 a1 a2 a3 h) :=
  CM.of (by decide +kernel) (by simp [lg_sl, rv_cat, cat_I, cat_L, cat_S]) (lv := [(0, rv (w.1) a0), (1, rv (w.1) a1), (2, rv (w.1) a2), (3, rv (w.1) a3)]) (by simp [lv_args, rv_cat, cat_I, cat_L, cat_S]) (fun x hx => by subst hx; exact jX7_spoiledLanes x a0 a1 a2 a3 h)
-- FallTrials$Trials.spoiledBy(LFallTrials$Works;LFallTrials$Trace;LFallTrials$Numbers;)J
abbrev qX9_spoiledBy : MT := (cX9_spoiledBy, RX9, "spoiledBy", (some .long), 5, 133, 4)
def X9_spoiledBy_f (a0 : Nat) (a1 : Nat) (a2 : Nat) (a3 : Nat) (h : AH) : Option (Int64 × AH) :=
  G (xc h a0 = 9) <|
  G (xc h (xR h a0 1) = 3) <|
  BN (X3_putAll_f (xR h a0 1) a3 h) fun _ h3 =>
  G (xc h3 a0 = 9) <|
  G (xc h3 (xR h3 a0 9) = 7) <|
  BN (X7_spoiledLanes_f (xR h3 a0 9) a1 a2 (xR h3 a0 1) h3) fun w7 h6 =>
  some (w7, h6)
theorem jX9_spoiledBy (x : CT) (a0 : Nat) (a1 : Nat) (a2 : Nat) (a3 : Nat) (h : AH) : J x qX9_spoiledBy ZL 0 [(0, rv (zx x) a0), (1, rv (zx x) a1), (2, rv (zx x) a2), (3, rv (zx x) a3)] [] h (X9_spoiledBy_f a0 a1 a2 a3 h) := by
  unfold X9_spoiledBy_f
  refine J_aload_n 0 dX9_spoiledBy_0 rv_is rfl ?_
  refine J_G (fun g1 => ?_)
  refine J_getR kc_9 1 (by decide) rfl rfl kw_2_235 dX9_spoiledBy_1 g1 ?_
  refine J_aload_n 3 dX9_spoiledBy_4 rv_is rfl ?_
  refine J_G (fun g2 => ?_)
  refine J.callV (n := 1) (As := [rv (zx x) a3]) kc_3 (ctX3_putAll (lx x) (wx x) (xR h a0 1) a3 h) kw_4_120 kw_4_117 kw_4_118 kw_4_119 kw_1_9 (by decide +kernel) rfl (by decide) (Nat.zero_le _) rfl dX9_spoiledBy_5 g2 (fun _ h3 => ?_)
  show J x _ _ 8 _ [] h3 _
  refine J_aload_n 0 dX9_spoiledBy_8 rv_is rfl ?_
  refine J_G (fun g4 => ?_)
  refine J_getR kc_9 9 (by decide) rfl rfl kw_3_5 dX9_spoiledBy_9 g4 ?_
  refine J_aload_n 1 dX9_spoiledBy_12 rv_is rfl ?_
  refine J_aload_n 2 dX9_spoiledBy_13 rv_is rfl ?_
  refine J_aload_n 0 dX9_spoiledBy_14 rv_is rfl ?_
  refine J_getR kc_9 1 (by decide) rfl rfl kw_2_235 dX9_spoiledBy_15 g4 ?_
  refine J_G (fun g5 => ?_)
  refine J.callV (n := 3) (As := [rv (zx x) a1, rv (zx x) a2, rv (zx x) (xR h3 a0 1)]) kc_7 (ctX7_spoiledLanes (lx x) (wx x) (xR h3 a0 9) a1 a2 (xR h3 a0 1) h3) kw_5_46 kw_5_43 kw_5_44 kw_5_45 kw_1_12 (by decide +kernel) rfl (by decide) (Nat.zero_le _) rfl dX9_spoiledBy_18 g5 (fun w7 h6 => ?_)
  show J x _ _ 21 _ [.long w7] h6 _
  exact J_lret dX9_spoiledBy_21
theorem ctX9_spoiledBy (l : Launch) (w : WT) (a0 : Nat) (a1 : Nat) (a2 : Nat) (a3 : Nat) (h : AH) : CM l w yX9_spoiledBy cX9_spoiledBy 4 (some .long) 5 133 KL [rv (w.1) a0, rv (w.1) a1, rv (w.1) a2, rv (w.1) a3] h (X9_spoiledBy_f a0 a1 a2 a3 h) :=
  CM.of (by decide +kernel) (by simp [lg_sl, rv_cat, cat_I, cat_L, cat_S]) (lv := [(0, rv (w.1) a0), (1, rv (w.1) a1), (2, rv (w.1) a2), (3, rv (w.1) a3)]) (by simp [lv_args, rv_cat, cat_I, cat_L, cat_S]) (fun x hx => by subst hx; exact jX9_spoiledBy x a0 a1 a2 a3 h)
-- FallTrials$Trials.searchBundle(LFallTrials$Works;I)I
abbrev qX9_searchBundle : MT := (cX9_searchBundle, RX9, "searchBundle", (some .int), 5, 135, 7)
def X9_searchBundle_B205 (k67 : (Nat → Nat → Int32 → Int64 → Int32 → AH → Option (Int32 × AH))) (a0 : Nat) (a1 : Nat) (i2 : Int32) (l3 : Int64) (i5 : Int32) (h : AH) : Option (Int32 × AH) :=
  LT (i5 + nI 1) fun v1 =>
  k67 a0 a1 i2 l3 v1 h
theorem jX9_searchBundle_B205 (x : CT) (k67 : (Nat → Nat → Int32 → Int64 → Int32 → AH → Option (Int32 × AH))) (hk67 : ∀ (a0 : Nat) (a1 : Nat) (i2 : Int32) (l3 : Int64) (i5 : Int32) (h : AH), J x qX9_searchBundle ZI 67 [(0, rv (zx x) a0), (1, rv (zx x) a1), (2, .int i2), (3, .long l3), (5, .int i5)] [] h (k67 a0 a1 i2 l3 i5 h)) (a0 : Nat) (a1 : Nat) (i2 : Int32) (l3 : Int64) (i5 : Int32) (h : AH) : J x qX9_searchBundle ZI 205 [(0, rv (zx x) a0), (1, rv (zx x) a1), (2, .int i2), (3, .long l3), (5, .int i5)] [] h (X9_searchBundle_B205 k67 a0 a1 i2 l3 i5 h) := by
  unfold X9_searchBundle_B205
  refine J_iincL (u := i5 + nI 1) 4 dX9_searchBundle_205 rfl rfl (by decide) (SD.a (lvr := [(0, rv (zx x) a0), (1, rv (zx x) a1), (2, .int i2), (3, .long l3)]) [0, 1, 2, 3] rfl rfl) (fun v1 => ?_)
  refine J_goto (tgt := 67) dX9_searchBundle_208 rfl ?_
  exact J_sub [1, 2, 3, 4, 0] rfl (hk67 a0 a1 i2 l3 v1 h)
def X9_searchBundle_B157 (a0 : Nat) (h : AH) : Option (Int32 × AH) :=
  G (xc h a0 = 9) <|
  G (xc h (xR h a0 5) = 4) <|
  BN (X4_take_f (xR h a0 5) (xR h a0 4) h) fun _ h3 =>
  some (nI 1, h3)
theorem jX9_searchBundle_B157 (x : CT) (a0 : Nat) (h : AH) : J x qX9_searchBundle ZI 157 [(0, rv (zx x) a0)] [] h (X9_searchBundle_B157 a0 h) := by
  unfold X9_searchBundle_B157
  refine J_aload_n 0 dX9_searchBundle_157 rv_is rfl ?_
  refine J_G (fun g1 => ?_)
  refine J_getR kc_9 5 (by decide) rfl rfl kw_2_239 dX9_searchBundle_158 g1 ?_
  refine J_aload_n 0 dX9_searchBundle_161 rv_is rfl ?_
  refine J_getR kc_9 4 (by decide) rfl rfl kw_2_238 dX9_searchBundle_162 g1 ?_
  refine J_G (fun g2 => ?_)
  refine J.callV (n := 1) (As := [rv (zx x) (xR h a0 4)]) kc_4 (ctX4_take (lx x) (wx x) (xR h a0 5) (xR h a0 4) h) kw_5_160 kw_5_157 kw_5_158 kw_5_159 kw_1_6 (by decide +kernel) rfl (by decide) (Nat.zero_le _) rfl dX9_searchBundle_165 g2 (fun _ h3 => ?_)
  show J x _ _ 168 _ [] h3 _
  refine J_iconst (v := nI 1) dX9_searchBundle_168 rfl ?_
  exact J_iret dX9_searchBundle_169
def X9_searchBundle_B67 : Nat → Nat → Nat → Int32 → Int64 → Int32 → AH → Option (Int32 × AH)
  | 0, _, _, _, _, _, _ => none
  | n + 1, a0, a1, i2, l3, i5, h =>
    if (nI 64) ≤ i5 then (
      some ((-1), h)
    ) else (
      if (lg_cmp l3 (lN 0)) = 0 then (
        some ((-1), h)
      ) else (
        if (lg_cmp (((l3.toUInt64 >>> (i5.toInt64.toUInt64 &&& Int64.toUInt64 63)).toInt64) &&& (lN 1)) (lN 0)) = 0 then (
          X9_searchBundle_B205 (X9_searchBundle_B67 n) a0 a1 i2 l3 i5 h
        ) else (
          G (xc h a0 = 9) <|
          if (xI h a0 10) = i2 then (
            some (nI 2, h)
          ) else (
            G (xc h a0 = 9) <|
            LT (pI h a0 10 ((xI h a0 10) + (nI 1))) fun h3 =>
            G (xc h3 a0 = 9) <|
            G (xc h3 (xR h3 a0 0) = 5) <|
            BN (X5_writeSet_f (xR h3 a0 0) i5 (xR h3 a0 4) h3) fun _ h6 =>
            G (xc h6 a0 = 9) <|
            BN (X9_formula_f a0 (xI h6 a0 11) h6) fun r9 h8 =>
            G (xc h8 a0 = 9) <|
            BN (X9_play_f a0 a1 (xR h8 a0 4) r9 h8) fun _ h11 =>
            G (xc h11 r9 = 8) <|
            if (xI h11 r9 6) = (nI 2) then (
              X9_searchBundle_B157 a0 h11
            ) else (
              G (xc h11 r9 = 8) <|
              if (xI h11 r9 6) = 0 then (
                G (xc h11 a0 = 9) <|
                LT (pI h11 a0 11 ((xI h11 a0 11) + (nI 1))) fun h15 =>
                G (xc h15 a0 = 9) <|
                G (xc h15 (xR h15 a0 9) = 7) <|
                BN (X7_spoiledLanes_f (xR h15 a0 9) a1 r9 (xR h15 a0 2) h15) fun w19 h18 =>
                LT (l3 &&& w19) fun w20 =>
                X9_searchBundle_B205 (X9_searchBundle_B67 n) a0 a1 i2 w20 i5 h18
              ) else (
                X9_searchBundle_B205 (X9_searchBundle_B67 n) a0 a1 i2 l3 i5 h11
              )
            )
          )
        )
      )
    )
theorem jX9_searchBundle_B67 (x : CT) : ∀ (n : Nat) (a0 : Nat) (a1 : Nat) (i2 : Int32) (l3 : Int64) (i5 : Int32) (h : AH), J x qX9_searchBundle ZI 67 [(0, rv (zx x) a0), (1, rv (zx x) a1), (2, .int i2), (3, .long l3), (5, .int i5)] [] h (X9_searchBundle_B67 n a0 a1 i2 l3 i5 h) := by
  intro n
  induction n with
  | zero => intro a0 a1 i2 l3 i5 h; exact J_none
  | succ n ih =>
    intro a0 a1 i2 l3 i5 h
    unfold X9_searchBundle_B67
    refine J_iload 4 dX9_searchBundle_67 rfl ?_
    refine J_bipush (v := nI 64) dX9_searchBundle_69 rfl ?_
    refine J_icmp_ge (tgt := 211) dX9_searchBundle_71 rfl ?_ ?_
    · refine J_iconst (v := (-1)) dX9_searchBundle_211 rfl ?_
      exact J_iret dX9_searchBundle_212
    · refine J_lload_n 3 dX9_searchBundle_74 rfl ?_
      refine J_lconst (v := lN 0) dX9_searchBundle_75 rfl ?_
      refine J_lcmp dX9_searchBundle_76 ?_
      refine J_if_eq (tgt := 211) dX9_searchBundle_77 rfl ?_ ?_
      · refine J_iconst (v := (-1)) dX9_searchBundle_211 rfl ?_
        exact J_iret dX9_searchBundle_212
      · refine J_lload_n 3 dX9_searchBundle_80 rfl ?_
        refine J_iload 4 dX9_searchBundle_81 rfl ?_
        refine J_lushr dX9_searchBundle_83 ?_
        refine J_lconst (v := lN 1) dX9_searchBundle_84 rfl ?_
        refine J_land dX9_searchBundle_85 ?_
        refine J_lconst (v := lN 0) dX9_searchBundle_86 rfl ?_
        refine J_lcmp dX9_searchBundle_87 ?_
        refine J_if_ne (tgt := 94) dX9_searchBundle_88 rfl ?_ ?_
        · refine J_aload_n 0 dX9_searchBundle_94 rv_is rfl ?_
          refine J_G (fun g1 => ?_)
          refine J_getI kc_9 10 (by decide) rfl rfl kw_3_7 dX9_searchBundle_95 g1 ?_
          refine J_iload_n 2 dX9_searchBundle_98 rfl ?_
          refine J_icmp_ne (tgt := 104) dX9_searchBundle_99 rfl ?_ ?_
          · refine J_aload_n 0 dX9_searchBundle_104 rv_is rfl ?_
            refine J_dup dX9_searchBundle_105 rv_cat ?_
            refine J_G (fun g2 => ?_)
            refine J_getI kc_9 10 (by decide) rfl rfl kw_3_7 dX9_searchBundle_106 g2 ?_
            refine J_iconst (v := nI 1) dX9_searchBundle_109 rfl ?_
            refine J_iadd dX9_searchBundle_110 ?_
            refine J_putI kc_9 10 (by decide) rfl rfl rfl rfl (Or.inl rfl) kw_3_7 dX9_searchBundle_111 g2 ?_
            refine J_LTh (fun h3 => ?_)
            refine J_aload_n 0 dX9_searchBundle_114 rv_is rfl ?_
            refine J_G (fun g4 => ?_)
            refine J_getR kc_9 0 (by decide) rfl rfl kw_2_233 dX9_searchBundle_115 g4 ?_
            refine J_iload 4 dX9_searchBundle_118 rfl ?_
            refine J_aload_n 0 dX9_searchBundle_120 rv_is rfl ?_
            refine J_getR kc_9 4 (by decide) rfl rfl kw_2_238 dX9_searchBundle_121 g4 ?_
            refine J_G (fun g5 => ?_)
            refine J.callV (n := 2) (As := [.int i5, rv (zx x) (xR h3 a0 4)]) kc_5 (ctX5_writeSet (lx x) (wx x) (xR h3 a0 0) i5 (xR h3 a0 4) h3) kw_5_151 kw_5_148 kw_5_149 kw_5_150 kw_1_8 (by decide +kernel) rfl (by decide) (Nat.zero_le _) rfl dX9_searchBundle_124 g5 (fun _ h6 => ?_)
            show J x _ _ 127 _ [] h6 _
            refine J_aload_n 0 dX9_searchBundle_127 rv_is rfl ?_
            refine J_aload_n 0 dX9_searchBundle_128 rv_is rfl ?_
            refine J_G (fun g7 => ?_)
            refine J_getI kc_9 11 (by decide) rfl rfl kw_3_9 dX9_searchBundle_129 g7 ?_
            refine J.callV (n := 1) (As := [.int (xI h6 a0 11)]) kc_9 (ctX9_formula (lx x) (wx x) a0 (xI h6 a0 11) h6) kw_5_119 kw_5_116 kw_5_117 kw_5_118 kw_1_7 (by decide +kernel) rfl (by decide) (Nat.zero_le _) rfl dX9_searchBundle_132 g7 (fun r9 h8 => ?_)
            show J x _ _ 135 _ [rv (zx x) r9] h8 _
            refine J_astore rv_is dX9_searchBundle_135 (by decide) (SD.a (lvr := [(0, rv (zx x) a0), (1, rv (zx x) a1), (2, .int i2), (3, .long l3), (5, .int i5)]) [0, 1, 2, 3, 4] rfl rfl) ?_
            refine J_aload_n 1 dX9_searchBundle_137 rv_is rfl ?_
            refine J_aload_n 2 dX9_searchBundle_138 rv_is rfl ?_
            refine J_aload_n 1 dX9_searchBundle_139 rv_is rfl ?_
            refine J_G (fun g10 => ?_)
            refine J_getR kc_9 4 (by decide) rfl rfl kw_2_238 dX9_searchBundle_140 g10 ?_
            refine J_aload 0 dX9_searchBundle_143 rv_is rfl ?_
            refine J.callV (n := 3) (As := [rv (zx x) a1, rv (zx x) (xR h8 a0 4), rv (zx x) r9]) kc_9 (ctX9_play (lx x) (wx x) a0 a1 (xR h8 a0 4) r9 h8) kw_4_116 kw_5_120 kw_4_114 kw_4_115 kw_1_7 (by decide +kernel) rfl (by decide) (Nat.zero_le _) rfl dX9_searchBundle_145 g10 (fun _ h11 => ?_)
            show J x _ _ 148 _ [] h11 _
            refine J_aload 0 dX9_searchBundle_148 rv_is rfl ?_
            refine J_G (fun g12 => ?_)
            refine J_getI kc_8 6 (by decide) rfl rfl kw_2_151 dX9_searchBundle_150 g12 ?_
            refine J_iconst (v := nI 2) dX9_searchBundle_153 rfl ?_
            refine J_icmp_ne (tgt := 170) dX9_searchBundle_154 rfl ?_ ?_
            · refine J_aload 0 dX9_searchBundle_170 rv_is rfl ?_
              refine J_G (fun g13 => ?_)
              refine J_getI kc_8 6 (by decide) rfl rfl kw_2_151 dX9_searchBundle_172 g13 ?_
              refine J_if_ne (tgt := 205) dX9_searchBundle_175 rfl ?_ ?_
              · exact J_sub [1, 2, 3, 4, 5] rfl (jX9_searchBundle_B205 x (X9_searchBundle_B67 n) ih a0 a1 i2 l3 i5 h11)
              · refine J_aload_n 1 dX9_searchBundle_178 rv_is rfl ?_
                refine J_dup dX9_searchBundle_179 rv_cat ?_
                refine J_G (fun g14 => ?_)
                refine J_getI kc_9 11 (by decide) rfl rfl kw_3_9 dX9_searchBundle_180 g14 ?_
                refine J_iconst (v := nI 1) dX9_searchBundle_183 rfl ?_
                refine J_iadd dX9_searchBundle_184 ?_
                refine J_putI kc_9 11 (by decide) rfl rfl rfl rfl (Or.inl rfl) kw_3_9 dX9_searchBundle_185 g14 ?_
                refine J_LTh (fun h15 => ?_)
                refine J_lload_n 4 dX9_searchBundle_188 rfl ?_
                refine J_aload_n 1 dX9_searchBundle_189 rv_is rfl ?_
                refine J_G (fun g16 => ?_)
                refine J_getR kc_9 9 (by decide) rfl rfl kw_3_5 dX9_searchBundle_190 g16 ?_
                refine J_aload_n 2 dX9_searchBundle_193 rv_is rfl ?_
                refine J_aload 0 dX9_searchBundle_194 rv_is rfl ?_
                refine J_aload_n 1 dX9_searchBundle_196 rv_is rfl ?_
                refine J_getR kc_9 2 (by decide) rfl rfl kw_2_236 dX9_searchBundle_197 g16 ?_
                refine J_G (fun g17 => ?_)
                refine J.callV (n := 3) (As := [rv (zx x) a1, rv (zx x) r9, rv (zx x) (xR h15 a0 2)]) kc_7 (ctX7_spoiledLanes (lx x) (wx x) (xR h15 a0 9) a1 r9 (xR h15 a0 2) h15) kw_5_46 kw_5_43 kw_5_44 kw_5_45 kw_1_12 (by decide +kernel) rfl (by decide) (by simp [rv_cat, cat_I, cat_L, cat_S]) rfl dX9_searchBundle_200 g17 (fun w19 h18 => ?_)
                show J x _ _ 203 _ [.long w19, .long l3] h18 _
                refine J_land dX9_searchBundle_203 ?_
                refine J_LTl (fun w20 => ?_)
                refine J_lstore_n dX9_searchBundle_204 (by decide) (SD.a (lvr := [(0, rv (zx x) a0), (1, rv (zx x) a1), (2, .int i2), (5, .int i5)]) [1, 2, 3, 5] rfl rfl) rfl ?_
                exact J_sub [1, 2, 3, 0, 4] rfl (jX9_searchBundle_B205 x (X9_searchBundle_B67 n) ih a0 a1 i2 w20 i5 h18)
            · exact J_sub [1] rfl (jX9_searchBundle_B157 x a0 h11)
          · refine J_iconst (v := nI 2) dX9_searchBundle_102 rfl ?_
            exact J_iret dX9_searchBundle_103
        · refine J_goto (tgt := 205) dX9_searchBundle_91 rfl ?_
          exact (jX9_searchBundle_B205 x (X9_searchBundle_B67 n) ih a0 a1 i2 l3 i5 h)
def X9_searchBundle_B64 (a0 : Nat) (a1 : Nat) (i2 : Int32) (l3 : Int64) (h : AH) : Option (Int32 × AH) :=
  X9_searchBundle_B67 FU a0 a1 i2 l3 (nI 0) h
theorem jX9_searchBundle_B64 (x : CT) (a0 : Nat) (a1 : Nat) (i2 : Int32) (l3 : Int64) (h : AH) : J x qX9_searchBundle ZI 64 [(0, rv (zx x) a0), (1, rv (zx x) a1), (2, .int i2), (3, .long l3)] [] h (X9_searchBundle_B64 a0 a1 i2 l3 h) := by
  unfold X9_searchBundle_B64
  refine J_iconst (v := nI 0) dX9_searchBundle_64 rfl ?_
  refine J_istore dX9_searchBundle_65 (by decide) (SD.a (lvr := [(0, rv (zx x) a0), (1, rv (zx x) a1), (2, .int i2), (3, .long l3)]) [0, 1, 2, 3] rfl rfl) ?_
  exact J_sub [1, 2, 3, 4, 0] rfl (jX9_searchBundle_B67 x FU a0 a1 i2 l3 (nI 0) h)
def X9_searchBundle_B22 : Nat → Nat → Nat → Int32 → Int64 → Int32 → AH → Option (Int32 × AH)
  | 0, _, _, _, _, _, _ => none
  | n + 1, a0, a1, i2, l3, i5, h =>
    G (xc h a0 = 9) <|
    if (xI h a0 11) ≤ i5 then (
      X9_searchBundle_B64 a0 a1 i2 l3 h
    ) else (
      if (lg_cmp l3 (lN 0)) = 0 then (
        X9_searchBundle_B64 a0 a1 i2 l3 h
      ) else (
        G (xc h a0 = 9) <|
        BN (X9_formula_f a0 i5 h) fun r4 h3 =>
        G (xc h3 a0 = 9) <|
        G (xc h3 (xR h a0 9) = 7) <|
        BN (X7_spoiledLanes_f (xR h a0 9) a1 r4 (xR h3 a0 2) h3) fun w8 h7 =>
        LT (l3 &&& w8) fun w9 =>
        LT (i5 + nI 1) fun v10 =>
        X9_searchBundle_B22 n a0 a1 i2 w9 v10 h7
      )
    )
theorem jX9_searchBundle_B22 (x : CT) : ∀ (n : Nat) (a0 : Nat) (a1 : Nat) (i2 : Int32) (l3 : Int64) (i5 : Int32) (h : AH), J x qX9_searchBundle ZI 22 [(0, rv (zx x) a0), (1, rv (zx x) a1), (2, .int i2), (3, .long l3), (5, .int i5)] [] h (X9_searchBundle_B22 n a0 a1 i2 l3 i5 h) := by
  intro n
  induction n with
  | zero => intro a0 a1 i2 l3 i5 h; exact J_none
  | succ n ih =>
    intro a0 a1 i2 l3 i5 h
    unfold X9_searchBundle_B22
    refine J_iload 4 dX9_searchBundle_22 rfl ?_
    refine J_aload_n 0 dX9_searchBundle_24 rv_is rfl ?_
    refine J_G (fun g1 => ?_)
    refine J_getI kc_9 11 (by decide) rfl rfl kw_3_9 dX9_searchBundle_25 g1 ?_
    refine J_icmp_ge (tgt := 64) dX9_searchBundle_28 rfl ?_ ?_
    · exact J_sub [0, 1, 2, 3] rfl (jX9_searchBundle_B64 x a0 a1 i2 l3 h)
    · refine J_lload_n 3 dX9_searchBundle_31 rfl ?_
      refine J_lconst (v := lN 0) dX9_searchBundle_32 rfl ?_
      refine J_lcmp dX9_searchBundle_33 ?_
      refine J_if_eq (tgt := 64) dX9_searchBundle_34 rfl ?_ ?_
      · exact J_sub [0, 1, 2, 3] rfl (jX9_searchBundle_B64 x a0 a1 i2 l3 h)
      · refine J_lload_n 3 dX9_searchBundle_37 rfl ?_
        refine J_aload_n 0 dX9_searchBundle_38 rv_is rfl ?_
        refine J_G (fun g2 => ?_)
        refine J_getR kc_9 9 (by decide) rfl rfl kw_3_5 dX9_searchBundle_39 g2 ?_
        refine J_aload_n 1 dX9_searchBundle_42 rv_is rfl ?_
        refine J_aload_n 0 dX9_searchBundle_43 rv_is rfl ?_
        refine J_iload 4 dX9_searchBundle_44 rfl ?_
        refine J.callV (n := 1) (As := [.int i5]) kc_9 (ctX9_formula (lx x) (wx x) a0 i5 h) kw_5_119 kw_5_116 kw_5_117 kw_5_118 kw_1_7 (by decide +kernel) rfl (by decide) (by simp [rv_cat, cat_I, cat_L, cat_S]) rfl dX9_searchBundle_46 g2 (fun r4 h3 => ?_)
        show J x _ _ 49 _ [rv (zx x) r4, rv (zx x) a1, rv (zx x) (xR h a0 9), .long l3] h3 _
        refine J_aload_n 0 dX9_searchBundle_49 rv_is rfl ?_
        refine J_G (fun g5 => ?_)
        refine J_getR kc_9 2 (by decide) rfl rfl kw_2_236 dX9_searchBundle_50 g5 ?_
        refine J_G (fun g6 => ?_)
        refine J.callV (n := 3) (As := [rv (zx x) a1, rv (zx x) r4, rv (zx x) (xR h3 a0 2)]) kc_7 (ctX7_spoiledLanes (lx x) (wx x) (xR h a0 9) a1 r4 (xR h3 a0 2) h3) kw_5_46 kw_5_43 kw_5_44 kw_5_45 kw_1_12 (by decide +kernel) rfl (by decide) (by simp [rv_cat, cat_I, cat_L, cat_S]) rfl dX9_searchBundle_53 g6 (fun w8 h7 => ?_)
        show J x _ _ 56 _ [.long w8, .long l3] h7 _
        refine J_land dX9_searchBundle_56 ?_
        refine J_LTl (fun w9 => ?_)
        refine J_lstore_n dX9_searchBundle_57 (by decide) (SD.a (lvr := [(0, rv (zx x) a0), (1, rv (zx x) a1), (2, .int i2), (5, .int i5)]) [0, 1, 2, 4] rfl rfl) rfl ?_
        refine J_iincL (u := i5 + nI 1) 4 dX9_searchBundle_58 rfl rfl (by decide) (SD.a (lvr := [(3, .long w9), (0, rv (zx x) a0), (1, rv (zx x) a1), (2, .int i2)]) [0, 1, 2, 3] rfl rfl) (fun v10 => ?_)
        refine J_goto (tgt := 22) dX9_searchBundle_61 rfl ?_
        exact J_sub [2, 3, 4, 1, 0] rfl (ih a0 a1 i2 w9 v10 h7)
def X9_searchBundle_f (a0 : Nat) (a1 : Nat) (i2 : Int32) (h : AH) : Option (Int32 × AH) :=
  G (xc h a0 = 9) <|
  G (xc h (xR h a0 0) = 5) <|
  BN (X5_spread_f (xR h a0 0) (xR h a0 2) h) fun _ h3 =>
  G (xc h3 a0 = 9) <|
  G (xc h3 (xR h3 a0 0) = 5) <|
  LT (xL h3 (xR h3 a0 0) 7) fun w6 =>
  X9_searchBundle_B22 FU a0 a1 i2 w6 (nI 0) h3
theorem jX9_searchBundle (x : CT) (a0 : Nat) (a1 : Nat) (i2 : Int32) (h : AH) : J x qX9_searchBundle ZI 0 [(0, rv (zx x) a0), (1, rv (zx x) a1), (2, .int i2)] [] h (X9_searchBundle_f a0 a1 i2 h) := by
  unfold X9_searchBundle_f
  refine J_aload_n 0 dX9_searchBundle_0 rv_is rfl ?_
  refine J_G (fun g1 => ?_)
  refine J_getR kc_9 0 (by decide) rfl rfl kw_2_233 dX9_searchBundle_1 g1 ?_
  refine J_aload_n 0 dX9_searchBundle_4 rv_is rfl ?_
  refine J_getR kc_9 2 (by decide) rfl rfl kw_2_236 dX9_searchBundle_5 g1 ?_
  refine J_G (fun g2 => ?_)
  refine J.callV (n := 1) (As := [rv (zx x) (xR h a0 2)]) kc_5 (ctX5_spread (lx x) (wx x) (xR h a0 0) (xR h a0 2) h) kw_5_143 kw_5_140 kw_5_141 kw_5_142 kw_1_8 (by decide +kernel) rfl (by decide) (Nat.zero_le _) rfl dX9_searchBundle_8 g2 (fun _ h3 => ?_)
  show J x _ _ 11 _ [] h3 _
  refine J_aload_n 0 dX9_searchBundle_11 rv_is rfl ?_
  refine J_G (fun g4 => ?_)
  refine J_getR kc_9 0 (by decide) rfl rfl kw_2_233 dX9_searchBundle_12 g4 ?_
  refine J_G (fun g5 => ?_)
  refine J_getL kc_5 7 (by decide) rfl rfl kw_2_86 dX9_searchBundle_15 g5 ?_
  refine J_LTl (fun w6 => ?_)
  refine J_lstore_n dX9_searchBundle_18 (by decide) (SD.a (lvr := [(0, rv (zx x) a0), (1, rv (zx x) a1), (2, .int i2)]) [0, 1, 2] rfl rfl) rfl ?_
  refine J_iconst (v := nI 0) dX9_searchBundle_19 rfl ?_
  refine J_istore dX9_searchBundle_20 (by decide) (SD.a (lvr := [(3, .long w6), (0, rv (zx x) a0), (1, rv (zx x) a1), (2, .int i2)]) [0, 1, 2, 3] rfl rfl) ?_
  exact J_sub [2, 3, 4, 1, 0] rfl (jX9_searchBundle_B22 x FU a0 a1 i2 w6 (nI 0) h3)
theorem ctX9_searchBundle (l : Launch) (w : WT) (a0 : Nat) (a1 : Nat) (i2 : Int32) (h : AH) : CM l w yX9_searchBundle cX9_searchBundle 7 (some .int) 5 135 KI [rv (w.1) a0, rv (w.1) a1, .int i2] h (X9_searchBundle_f a0 a1 i2 h) :=
  CM.of (by decide +kernel) (by simp [lg_sl, rv_cat, cat_I, cat_L, cat_S]) (lv := [(0, rv (w.1) a0), (1, rv (w.1) a1), (2, .int i2)]) (by simp [lv_args, rv_cat, cat_I, cat_L, cat_S]) (fun x hx => by subst hx; exact jX9_searchBundle x a0 a1 i2 h)
-- FallTrials$Trials.spoilSize(LFallTrials$Works;LFallTrials$Trace;I)I
abbrev qX9_spoilSize : MT := (cX9_spoilSize, RX9, "spoilSize", (some .int), 5, 133, 5)
def X9_spoilSize_B96 (k11 : (Nat → Nat → Nat → Int32 → Int32 → AH → Option (Int32 × AH))) (a0 : Nat) (a1 : Nat) (a2 : Nat) (i3 : Int32) (i4 : Int32) (h : AH) : Option (Int32 × AH) :=
  LT (i4 + nI 1) fun v1 =>
  k11 a0 a1 a2 i3 v1 h
theorem jX9_spoilSize_B96 (x : CT) (k11 : (Nat → Nat → Nat → Int32 → Int32 → AH → Option (Int32 × AH))) (hk11 : ∀ (a0 : Nat) (a1 : Nat) (a2 : Nat) (i3 : Int32) (i4 : Int32) (h : AH), J x qX9_spoilSize ZI 11 [(0, rv (zx x) a0), (1, rv (zx x) a1), (2, rv (zx x) a2), (3, .int i3), (4, .int i4)] [] h (k11 a0 a1 a2 i3 i4 h)) (a0 : Nat) (a1 : Nat) (a2 : Nat) (i3 : Int32) (i4 : Int32) (h : AH) : J x qX9_spoilSize ZI 96 [(0, rv (zx x) a0), (1, rv (zx x) a1), (2, rv (zx x) a2), (3, .int i3), (4, .int i4)] [] h (X9_spoilSize_B96 k11 a0 a1 a2 i3 i4 h) := by
  unfold X9_spoilSize_B96
  refine J_iincL (u := i4 + nI 1) 4 dX9_spoilSize_96 rfl rfl (by decide) (SD.a (lvr := [(0, rv (zx x) a0), (1, rv (zx x) a1), (2, rv (zx x) a2), (3, .int i3)]) [0, 1, 2, 3] rfl rfl) (fun v1 => ?_)
  refine J_goto (tgt := 11) dX9_spoilSize_99 rfl ?_
  exact J_sub [1, 2, 3, 4, 0] rfl (hk11 a0 a1 a2 i3 v1 h)
def X9_spoilSize_B88 (a0 : Nat) (h : AH) : Option (Int32 × AH) :=
  G (xc h a0 = 9) <|
  G (xc h (xR h a0 0) = 5) <|
  some (xI h (xR h a0 0) 5, h)
theorem jX9_spoilSize_B88 (x : CT) (a0 : Nat) (h : AH) : J x qX9_spoilSize ZI 88 [(0, rv (zx x) a0)] [] h (X9_spoilSize_B88 a0 h) := by
  unfold X9_spoilSize_B88
  refine J_aload_n 0 dX9_spoilSize_88 rv_is rfl ?_
  refine J_G (fun g1 => ?_)
  refine J_getR kc_9 0 (by decide) rfl rfl kw_2_233 dX9_spoilSize_89 g1 ?_
  refine J_G (fun g2 => ?_)
  refine J_getI kc_5 5 (by decide) rfl rfl kw_2_84 dX9_spoilSize_92 g2 ?_
  exact J_iret dX9_spoilSize_95
def X9_spoilSize_B11 : Nat → Nat → Nat → Nat → Int32 → Int32 → AH → Option (Int32 × AH)
  | 0, _, _, _, _, _, _ => none
  | n + 1, a0, a1, a2, i3, i4, h =>
    if (nI 1000000) ≤ i4 then (
      some ((-1), h)
    ) else (
      G (xc h a0 = 9) <|
      G (xc h (xR h a0 0) = 5) <|
      BN (X5_advance_f (xR h a0 0) h) fun v4 h3 =>
      if v4 = 0 then (
        some ((-1), h3)
      ) else (
        G (xc h3 a0 = 9) <|
        G (xc h3 (xR h3 a0 0) = 5) <|
        if i3 < (xI h3 (xR h3 a0 0) 5) then (
          some ((-1), h3)
        ) else (
          G (xc h3 a0 = 9) <|
          G (xc h3 (xR h3 a0 0) = 5) <|
          BN (X5_spread_f (xR h3 a0 0) (xR h3 a0 2) h3) fun _ h9 =>
          G (xc h9 a0 = 9) <|
          G (xc h9 (xR h9 a0 0) = 5) <|
          if (lg_cmp (xL h9 (xR h9 a0 0) 7) (lN 0)) = 0 then (
            X9_spoilSize_B96 (X9_spoilSize_B11 n) a0 a1 a2 i3 i4 h9
          ) else (
            G (xc h9 a0 = 9) <|
            G (xc h9 (xR h9 a0 9) = 7) <|
            BN (X7_spoiledLanes_f (xR h9 a0 9) a1 a2 (xR h9 a0 2) h9) fun w15 h14 =>
            G (xc h14 a0 = 9) <|
            G (xc h14 (xR h14 a0 0) = 5) <|
            if (lg_cmp (w15 &&& (xL h14 (xR h14 a0 0) 7)) (lN 0)) = 0 then (
              X9_spoilSize_B96 (X9_spoilSize_B11 n) a0 a1 a2 i3 i4 h14
            ) else (
              X9_spoilSize_B88 a0 h14
            )
          )
        )
      )
    )
theorem jX9_spoilSize_B11 (x : CT) : ∀ (n : Nat) (a0 : Nat) (a1 : Nat) (a2 : Nat) (i3 : Int32) (i4 : Int32) (h : AH), J x qX9_spoilSize ZI 11 [(0, rv (zx x) a0), (1, rv (zx x) a1), (2, rv (zx x) a2), (3, .int i3), (4, .int i4)] [] h (X9_spoilSize_B11 n a0 a1 a2 i3 i4 h) := by
  intro n
  induction n with
  | zero => intro a0 a1 a2 i3 i4 h; exact J_none
  | succ n ih =>
    intro a0 a1 a2 i3 i4 h
    unfold X9_spoilSize_B11
    refine J_iload 4 dX9_spoilSize_11 rfl ?_
    refine J_ldc (v := nI 1000000) dX9_spoilSize_13 (kw_5_126 : Cond.constant _ _ (nI 1000000) ∈ WG) ?_
    refine J_icmp_ge (tgt := 102) dX9_spoilSize_15 rfl ?_ ?_
    · refine J_iconst (v := (-1)) dX9_spoilSize_102 rfl ?_
      exact J_iret dX9_spoilSize_103
    · refine J_aload_n 0 dX9_spoilSize_18 rv_is rfl ?_
      refine J_G (fun g1 => ?_)
      refine J_getR kc_9 0 (by decide) rfl rfl kw_2_233 dX9_spoilSize_19 g1 ?_
      refine J_G (fun g2 => ?_)
      refine J.callV (n := 0) (As := []) kc_5 (ctX5_advance (lx x) (wx x) (xR h a0 0) h) kw_5_130 kw_5_127 kw_5_128 kw_5_129 kw_1_8 (by decide +kernel) rfl (by decide) (Nat.zero_le _) rfl dX9_spoilSize_22 g2 (fun v4 h3 => ?_)
      show J x _ _ 25 _ [.int v4] h3 _
      refine J_if_eq (tgt := 102) dX9_spoilSize_25 rfl ?_ ?_
      · refine J_iconst (v := (-1)) dX9_spoilSize_102 rfl ?_
        exact J_iret dX9_spoilSize_103
      · refine J_aload_n 0 dX9_spoilSize_28 rv_is rfl ?_
        refine J_G (fun g5 => ?_)
        refine J_getR kc_9 0 (by decide) rfl rfl kw_2_233 dX9_spoilSize_29 g5 ?_
        refine J_G (fun g6 => ?_)
        refine J_getI kc_5 5 (by decide) rfl rfl kw_2_84 dX9_spoilSize_32 g6 ?_
        refine J_iload_n 3 dX9_spoilSize_35 rfl ?_
        refine J_icmp_gt (tgt := 102) dX9_spoilSize_36 rfl ?_ ?_
        · refine J_iconst (v := (-1)) dX9_spoilSize_102 rfl ?_
          exact J_iret dX9_spoilSize_103
        · refine J_aload_n 0 dX9_spoilSize_39 rv_is rfl ?_
          refine J_G (fun g7 => ?_)
          refine J_getR kc_9 0 (by decide) rfl rfl kw_2_233 dX9_spoilSize_40 g7 ?_
          refine J_aload_n 0 dX9_spoilSize_43 rv_is rfl ?_
          refine J_getR kc_9 2 (by decide) rfl rfl kw_2_236 dX9_spoilSize_44 g7 ?_
          refine J_G (fun g8 => ?_)
          refine J.callV (n := 1) (As := [rv (zx x) (xR h3 a0 2)]) kc_5 (ctX5_spread (lx x) (wx x) (xR h3 a0 0) (xR h3 a0 2) h3) kw_5_143 kw_5_140 kw_5_141 kw_5_142 kw_1_8 (by decide +kernel) rfl (by decide) (Nat.zero_le _) rfl dX9_spoilSize_47 g8 (fun _ h9 => ?_)
          show J x _ _ 50 _ [] h9 _
          refine J_aload_n 0 dX9_spoilSize_50 rv_is rfl ?_
          refine J_G (fun g10 => ?_)
          refine J_getR kc_9 0 (by decide) rfl rfl kw_2_233 dX9_spoilSize_51 g10 ?_
          refine J_G (fun g11 => ?_)
          refine J_getL kc_5 7 (by decide) rfl rfl kw_2_86 dX9_spoilSize_54 g11 ?_
          refine J_lconst (v := lN 0) dX9_spoilSize_57 rfl ?_
          refine J_lcmp dX9_spoilSize_58 ?_
          refine J_if_eq (tgt := 96) dX9_spoilSize_59 rfl ?_ ?_
          · exact (jX9_spoilSize_B96 x (X9_spoilSize_B11 n) ih a0 a1 a2 i3 i4 h9)
          · refine J_aload_n 0 dX9_spoilSize_62 rv_is rfl ?_
            refine J_G (fun g12 => ?_)
            refine J_getR kc_9 9 (by decide) rfl rfl kw_3_5 dX9_spoilSize_63 g12 ?_
            refine J_aload_n 1 dX9_spoilSize_66 rv_is rfl ?_
            refine J_aload_n 2 dX9_spoilSize_67 rv_is rfl ?_
            refine J_aload_n 0 dX9_spoilSize_68 rv_is rfl ?_
            refine J_getR kc_9 2 (by decide) rfl rfl kw_2_236 dX9_spoilSize_69 g12 ?_
            refine J_G (fun g13 => ?_)
            refine J.callV (n := 3) (As := [rv (zx x) a1, rv (zx x) a2, rv (zx x) (xR h9 a0 2)]) kc_7 (ctX7_spoiledLanes (lx x) (wx x) (xR h9 a0 9) a1 a2 (xR h9 a0 2) h9) kw_5_46 kw_5_43 kw_5_44 kw_5_45 kw_1_12 (by decide +kernel) rfl (by decide) (Nat.zero_le _) rfl dX9_spoilSize_72 g13 (fun w15 h14 => ?_)
            show J x _ _ 75 _ [.long w15] h14 _
            refine J_aload_n 0 dX9_spoilSize_75 rv_is rfl ?_
            refine J_G (fun g16 => ?_)
            refine J_getR kc_9 0 (by decide) rfl rfl kw_2_233 dX9_spoilSize_76 g16 ?_
            refine J_G (fun g17 => ?_)
            refine J_getL kc_5 7 (by decide) rfl rfl kw_2_86 dX9_spoilSize_79 g17 ?_
            refine J_land dX9_spoilSize_82 ?_
            refine J_lconst (v := lN 0) dX9_spoilSize_83 rfl ?_
            refine J_lcmp dX9_spoilSize_84 ?_
            refine J_if_eq (tgt := 96) dX9_spoilSize_85 rfl ?_ ?_
            · exact (jX9_spoilSize_B96 x (X9_spoilSize_B11 n) ih a0 a1 a2 i3 i4 h14)
            · exact J_sub [0] rfl (jX9_spoilSize_B88 x a0 h14)
def X9_spoilSize_f (a0 : Nat) (a1 : Nat) (a2 : Nat) (i3 : Int32) (h : AH) : Option (Int32 × AH) :=
  G (xc h a0 = 9) <|
  G (xc h (xR h a0 0) = 5) <|
  BN (X5_begin_f (xR h a0 0) a1 h) fun _ h3 =>
  X9_spoilSize_B11 FU a0 a1 a2 i3 (nI 0) h3
theorem jX9_spoilSize (x : CT) (a0 : Nat) (a1 : Nat) (a2 : Nat) (i3 : Int32) (h : AH) : J x qX9_spoilSize ZI 0 [(0, rv (zx x) a0), (1, rv (zx x) a1), (2, rv (zx x) a2), (3, .int i3)] [] h (X9_spoilSize_f a0 a1 a2 i3 h) := by
  unfold X9_spoilSize_f
  refine J_aload_n 0 dX9_spoilSize_0 rv_is rfl ?_
  refine J_G (fun g1 => ?_)
  refine J_getR kc_9 0 (by decide) rfl rfl kw_2_233 dX9_spoilSize_1 g1 ?_
  refine J_aload_n 1 dX9_spoilSize_4 rv_is rfl ?_
  refine J_G (fun g2 => ?_)
  refine J.callV (n := 1) (As := [rv (zx x) a1]) kc_5 (ctX5_begin (lx x) (wx x) (xR h a0 0) a1 h) kw_5_124 kw_5_121 kw_5_122 kw_5_123 kw_1_8 (by decide +kernel) rfl (by decide) (Nat.zero_le _) rfl dX9_spoilSize_5 g2 (fun _ h3 => ?_)
  show J x _ _ 8 _ [] h3 _
  refine J_iconst (v := nI 0) dX9_spoilSize_8 rfl ?_
  refine J_istore dX9_spoilSize_9 (by decide) (SD.a (lvr := [(0, rv (zx x) a0), (1, rv (zx x) a1), (2, rv (zx x) a2), (3, .int i3)]) [0, 1, 2, 3] rfl rfl) ?_
  exact J_sub [1, 2, 3, 4, 0] rfl (jX9_spoilSize_B11 x FU a0 a1 a2 i3 (nI 0) h3)
theorem ctX9_spoilSize (l : Launch) (w : WT) (a0 : Nat) (a1 : Nat) (a2 : Nat) (i3 : Int32) (h : AH) : CM l w yX9_spoilSize cX9_spoilSize 5 (some .int) 5 133 KI [rv (w.1) a0, rv (w.1) a1, rv (w.1) a2, .int i3] h (X9_spoilSize_f a0 a1 a2 i3 h) :=
  CM.of (by decide +kernel) (by simp [lg_sl, rv_cat, cat_I, cat_L, cat_S]) (lv := [(0, rv (w.1) a0), (1, rv (w.1) a1), (2, rv (w.1) a2), (3, .int i3)]) (by simp [lv_args, rv_cat, cat_I, cat_L, cat_S]) (fun x hx => by subst hx; exact jX9_spoilSize x a0 a1 a2 i3 h)
-- FallTrials.spoils()I
abbrev qX11_spoils : MT := (cX11_spoils, RX11, "spoils", (some .int), 6, 156, 3)
def X11_spoils_f (a0 : Nat) (h : AH) : Option (Int32 × AH) :=
  G (xc h a0 = 11) <|
  if (xI h a0 13) = 0 then (
    G (xc h a0 = 11) <|
    BN (X11_refuse_f a0 (nI 1) h) fun v19 h18 =>
    some (v19, h18)
  ) else (
    G (xc h a0 = 11) <|
    G (xc h (xR h a0 8) = 9) <|
    BN (X9_play_f (xR h a0 8) (xR h a0 1) (xR h a0 4) (xR h a0 10) h) fun _ h4 =>
    G (xc h4 a0 = 11) <|
    G (xc h4 (xR h4 a0 10) = 8) <|
    if (xI h4 (xR h4 a0 10) 6) = (nI 2) then (
      G (xc h4 a0 = 11) <|
      BN (X11_refuse_f a0 (nI 5) h4) fun v16 h15 =>
      some (v16, h15)
    ) else (
      G (xc h4 a0 = 11) <|
      G (xc h4 (xR h4 a0 8) = 9) <|
      BN (X9_spoiledBy_f (xR h4 a0 8) (xR h4 a0 1) (xR h4 a0 10) (xR h4 a0 3) h4) fun w10 h9 =>
      G (xc h9 a0 = 11) <|
      BN (X11_grant_f a0 ((w10 &&& (lN 1)).toInt32) h9) fun v13 h12 =>
      some (v13, h12)
    )
  )
theorem jX11_spoils (x : CT) (a0 : Nat) (h : AH) : J x qX11_spoils ZI 0 [(0, rv (zx x) a0)] [] h (X11_spoils_f a0 h) := by
  unfold X11_spoils_f
  refine J_aload_n 0 dX11_spoils_0 rv_is rfl ?_
  refine J_G (fun g1 => ?_)
  refine J_getI kc_11 13 (by decide) rfl rfl kw_3_55 dX11_spoils_1 g1 ?_
  refine J_if_ne (tgt := 13) dX11_spoils_4 rfl ?_ ?_
  · refine J_aload_n 0 dX11_spoils_13 rv_is rfl ?_
    refine J_G (fun g2 => ?_)
    refine J_getR kc_11 8 (by decide) rfl rfl kw_3_50 dX11_spoils_14 g2 ?_
    refine J_aload_n 0 dX11_spoils_17 rv_is rfl ?_
    refine J_getR kc_11 1 (by decide) rfl rfl kw_3_43 dX11_spoils_18 g2 ?_
    refine J_aload_n 0 dX11_spoils_21 rv_is rfl ?_
    refine J_getR kc_11 4 (by decide) rfl rfl kw_3_46 dX11_spoils_22 g2 ?_
    refine J_aload_n 0 dX11_spoils_25 rv_is rfl ?_
    refine J_getR kc_11 10 (by decide) rfl rfl kw_3_52 dX11_spoils_26 g2 ?_
    refine J_G (fun g3 => ?_)
    refine J.callV (n := 3) (As := [rv (zx x) (xR h a0 1), rv (zx x) (xR h a0 4), rv (zx x) (xR h a0 10)]) kc_9 (ctX9_play (lx x) (wx x) (xR h a0 8) (xR h a0 1) (xR h a0 4) (xR h a0 10) h) kw_4_116 kw_4_113 kw_4_114 kw_4_115 kw_1_7 (by decide +kernel) rfl (by decide) (Nat.zero_le _) rfl dX11_spoils_29 g3 (fun _ h4 => ?_)
    show J x _ _ 32 _ [] h4 _
    refine J_aload_n 0 dX11_spoils_32 rv_is rfl ?_
    refine J_G (fun g5 => ?_)
    refine J_getR kc_11 10 (by decide) rfl rfl kw_3_52 dX11_spoils_33 g5 ?_
    refine J_G (fun g6 => ?_)
    refine J_getI kc_8 6 (by decide) rfl rfl kw_2_152 dX11_spoils_36 g6 ?_
    refine J_iconst (v := nI 2) dX11_spoils_39 rfl ?_
    refine J_icmp_ne (tgt := 49) dX11_spoils_40 rfl ?_ ?_
    · refine J_aload_n 0 dX11_spoils_49 rv_is rfl ?_
      refine J_G (fun g7 => ?_)
      refine J_getR kc_11 8 (by decide) rfl rfl kw_3_50 dX11_spoils_50 g7 ?_
      refine J_aload_n 0 dX11_spoils_53 rv_is rfl ?_
      refine J_getR kc_11 1 (by decide) rfl rfl kw_3_43 dX11_spoils_54 g7 ?_
      refine J_aload_n 0 dX11_spoils_57 rv_is rfl ?_
      refine J_getR kc_11 10 (by decide) rfl rfl kw_3_52 dX11_spoils_58 g7 ?_
      refine J_aload_n 0 dX11_spoils_61 rv_is rfl ?_
      refine J_getR kc_11 3 (by decide) rfl rfl kw_3_45 dX11_spoils_62 g7 ?_
      refine J_G (fun g8 => ?_)
      refine J.callV (n := 3) (As := [rv (zx x) (xR h4 a0 1), rv (zx x) (xR h4 a0 10), rv (zx x) (xR h4 a0 3)]) kc_9 (ctX9_spoiledBy (lx x) (wx x) (xR h4 a0 8) (xR h4 a0 1) (xR h4 a0 10) (xR h4 a0 3) h4) kw_5_42 kw_5_39 kw_5_40 kw_5_41 kw_1_7 (by decide +kernel) rfl (by decide) (Nat.zero_le _) rfl dX11_spoils_65 g8 (fun w10 h9 => ?_)
      show J x _ _ 68 _ [.long w10] h9 _
      refine J_lstore_n dX11_spoils_68 (by decide) (SD.c (lvr := [(0, rv (zx x) a0)]) [0] rfl rfl 0 rfl rfl rv_cat) rfl ?_
      refine J_aload_n 1 dX11_spoils_69 rv_is rfl ?_
      refine J_lload_n 0 dX11_spoils_70 rfl ?_
      refine J_lconst (v := lN 1) dX11_spoils_71 rfl ?_
      refine J_land dX11_spoils_72 ?_
      refine J_l2i dX11_spoils_73 ?_
      refine J_G (fun g11 => ?_)
      refine J.callV (n := 1) (As := [.int ((w10 &&& (lN 1)).toInt32)]) kc_11 (ctX11_grant (lx x) (wx x) a0 ((w10 &&& (lN 1)).toInt32) h9) kw_4_65 kw_4_62 kw_4_64 kp_1 kw_1_1 (by decide +kernel) rfl (by decide) (Nat.zero_le _) rfl dX11_spoils_74 g11 (fun v13 h12 => ?_)
      show J x _ _ 77 _ [.int v13] h12 _
      exact J_iret dX11_spoils_77
    · refine J_aload_n 0 dX11_spoils_43 rv_is rfl ?_
      refine J_iconst (v := nI 5) dX11_spoils_44 rfl ?_
      refine J_G (fun g14 => ?_)
      refine J.callV (n := 1) (As := [.int (nI 5)]) kc_11 (ctX11_refuse (lx x) (wx x) a0 (nI 5) h4) kw_3_112 kw_3_109 kw_3_111 kp_0 kw_1_1 (by decide +kernel) rfl (by decide) (Nat.zero_le _) rfl dX11_spoils_45 g14 (fun v16 h15 => ?_)
      show J x _ _ 48 _ [.int v16] h15 _
      exact J_iret dX11_spoils_48
  · refine J_aload_n 0 dX11_spoils_7 rv_is rfl ?_
    refine J_iconst (v := nI 1) dX11_spoils_8 rfl ?_
    refine J_G (fun g17 => ?_)
    refine J.callV (n := 1) (As := [.int (nI 1)]) kc_11 (ctX11_refuse (lx x) (wx x) a0 (nI 1) h) kw_3_112 kw_3_109 kw_3_111 kp_0 kw_1_1 (by decide +kernel) rfl (by decide) (Nat.zero_le _) rfl dX11_spoils_9 g17 (fun v19 h18 => ?_)
    show J x _ _ 12 _ [.int v19] h18 _
    exact J_iret dX11_spoils_12
theorem ctX11_spoils (l : Launch) (w : WT) (a0 : Nat) (h : AH) : CM l w yX11_spoils cX11_spoils 3 (some .int) 6 156 KI [rv (w.1) a0] h (X11_spoils_f a0 h) :=
  CM.of (by decide +kernel) (by simp [lg_sl, rv_cat, cat_I, cat_L, cat_S]) (lv := [(0, rv (w.1) a0)]) (by simp [lv_args, rv_cat, cat_I, cat_L, cat_S]) (fun x hx => by subst hx; exact jX11_spoils x a0 h)
