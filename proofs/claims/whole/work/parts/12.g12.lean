-- FallTrials$Support.addWord(IIIJ)V
abbrev qX7_addWord : MT := (cX7_addWord, RX7, "addWord", none, 1, 27, 10)
def X7_addWord_f (a0 : Nat) (i1 : Int32) (i2 : Int32) (i3 : Int32) (l4 : Int64) (h : AH) : Option (Unit × AH) :=
  if i2 < 0 then (
    some ((), h)
  ) else (
    G (xc h a0 = 7) <|
    G (xc h (xR h a0 3) = 8) <|
    BN (X8_comesIn_f (xR h a0 3) i1 i2 i3 h) fun v4 h3 =>
    if v4 = 0 then (
      some ((), h3)
    ) else (
      G (xc h3 a0 = 7) <|
      G (xc h3 (xR h3 a0 2) = 0) <|
      G (xc h3 (xR h3 (xR h3 a0 2) 11) = 20) <|
      G (gx i1 (xz h3 (xR h3 (xR h3 a0 2) 11))) <|
      LT (xR h3 (xR h3 (xR h3 a0 2) 11) i1.toNatClampNeg) fun r9 =>
      LT ((i1 * (nI 7)) + i2) fun v10 =>
      G (xc h3 (xR h3 a0 4) = 3) <|
      G (xc h3 (xR h3 (xR h3 a0 4) 0) = 17) <|
      G (gx v10 (xz h3 (xR h3 (xR h3 a0 4) 0))) <|
      G (xc h3 (xR h3 (xR h3 a0 4) 1) = 17) <|
      G (gx v10 (xz h3 (xR h3 (xR h3 a0 4) 1))) <|
      G (xc h3 r9 = 1) <|
      G (xc h3 (xR h3 (xR h3 a0 4) 2) = 17) <|
      G (gx (((xI h3 r9 6) * (nI 7)) + i2) (xz h3 (xR h3 (xR h3 a0 4) 2))) <|
      LT ((((xL h3 (xR h3 (xR h3 a0 4) 0) v10.toNatClampNeg) ^^^ (-1)) &&& ((xL h3 (xR h3 (xR h3 a0 4) 1) v10.toNatClampNeg) ^^^ (-1))) &&& ((xL h3 (xR h3 (xR h3 a0 4) 2) (((xI h3 r9 6) * (nI 7)) + i2).toNatClampNeg) ^^^ (-1))) fun w19 =>
      G (xc h3 (xR h3 a0 3) = 8) <|
      BN (X8_caseTick_f (xR h3 a0 3) i1 i2 h3) fun v22 h21 =>
      G (xc h21 a0 = 7) <|
      BN (X7_casesStand_f a0 r9 (xI h3 r9 6) v22 h21) fun w25 h24 =>
      LT (w19 &&& w25) fun w26 =>
      G (xc h24 a0 = 7) <|
      G (xc h24 r9 = 1) <|
      BN (X11_cell_f i3 (xI h24 r9 7) h24) fun v30 h29 =>
      G (xc h29 r9 = 1) <|
      G (xc h29 (xR h24 a0 0) = 17) <|
      G (gx ((v30 * (nI 10)) + (xI h29 r9 3)) (xz h29 (xR h24 a0 0))) <|
      G (gx ((v30 * (nI 10)) + (xI h29 r9 3)) (xz h29 (xR h24 a0 0))) <|
      LT (pL h29 (xR h24 a0 0) ((v30 * (nI 10)) + (xI h29 r9 3)).toNatClampNeg ((xL h29 (xR h24 a0 0) ((v30 * (nI 10)) + (xI h29 r9 3)).toNatClampNeg) ||| (w26 &&& l4))) fun h35 =>
      some ((), h35)
    )
  )
theorem jX7_addWord (x : CT) (a0 : Nat) (i1 : Int32) (i2 : Int32) (i3 : Int32) (l4 : Int64) (h : AH) : J x qX7_addWord ZV 0 [(0, rv (zx x) a0), (1, .int i1), (2, .int i2), (3, .int i3), (4, .long l4)] [] h (X7_addWord_f a0 i1 i2 i3 l4 h) := by
  unfold X7_addWord_f
  refine J_iload_n 2 dX7_addWord_0 rfl ?_
  refine J_if_lt (tgt := 17) dX7_addWord_1 rfl ?_ ?_
  · exact J_vret dX7_addWord_17
  · refine J_aload_n 0 dX7_addWord_4 rv_is rfl ?_
    refine J_G (fun g1 => ?_)
    refine J_getR kc_7 3 (by decide) rfl rfl kw_2_220 dX7_addWord_5 g1 ?_
    refine J_iload_n 1 dX7_addWord_8 rfl ?_
    refine J_iload_n 2 dX7_addWord_9 rfl ?_
    refine J_iload_n 3 dX7_addWord_10 rfl ?_
    refine J_G (fun g2 => ?_)
    refine J.callV (n := 3) (As := [.int i1, .int i2, .int i3]) kc_8 (ctX8_comesIn (lx x) (wx x) (xR h a0 3) i1 i2 i3 h) kw_5_4 kw_5_66 kw_5_2 kw_5_3 kw_1_10 (by decide +kernel) rfl (by decide) (Nat.zero_le _) rfl dX7_addWord_11 g2 (fun v4 h3 => ?_)
    show J x _ _ 14 _ [.int v4] h3 _
    refine J_if_ne (tgt := 18) dX7_addWord_14 rfl ?_ ?_
    · refine J_aload_n 0 dX7_addWord_18 rv_is rfl ?_
      refine J_G (fun g5 => ?_)
      refine J_getR kc_7 2 (by decide) rfl rfl kw_2_219 dX7_addWord_19 g5 ?_
      refine J_G (fun g6 => ?_)
      refine J_getR kc_0 11 (by decide) rfl rfl kw_1_147 dX7_addWord_22 g6 ?_
      refine J_iload_n 1 dX7_addWord_25 rfl ?_
      refine J_G (fun g7 => ?_)
      refine J_G (fun g8 => ?_)
      refine J_aald (t := 20) (t0 := 4) (Cn := RX1) (by decide) (by decide) (fun _ => rfl) dX7_addWord_26 g7 g8 ?_
      refine J_LTr (fun r9 => ?_)
      refine J_astore rv_is dX7_addWord_27 (by decide) (SD.a (lvr := [(0, rv (zx x) a0), (1, .int i1), (2, .int i2), (3, .int i3), (4, .long l4)]) [0, 1, 2, 3, 4] rfl rfl) ?_
      refine J_iload_n 2 dX7_addWord_29 rfl ?_
      refine J_bipush (v := nI 7) dX7_addWord_30 rfl ?_
      refine J_imul dX7_addWord_32 ?_
      refine J_iload_n 3 dX7_addWord_33 rfl ?_
      refine J_iadd dX7_addWord_34 ?_
      refine J_LTi (fun v10 => ?_)
      refine J_istore dX7_addWord_35 (by decide) (SD.c (lvr := [(6, rv (zx x) r9), (0, rv (zx x) a0), (1, .int i1), (2, .int i2), (3, .int i3), (4, .long l4)]) [0, 1, 2, 3, 4, 5] rfl rfl 0 rfl rfl rv_cat) ?_
      refine J_aload_n 2 dX7_addWord_37 rv_is rfl ?_
      refine J_getR kc_7 4 (by decide) rfl rfl kw_2_221 dX7_addWord_38 g5 ?_
      refine J_G (fun g11 => ?_)
      refine J_getR kc_3 0 (by decide) rfl rfl kw_2_113 dX7_addWord_41 g11 ?_
      refine J_iload 0 dX7_addWord_44 rfl ?_
      refine J_G (fun g12 => ?_)
      refine J_G (fun g13 => ?_)
      refine J_lald dX7_addWord_46 g12 g13 ?_
      refine J_ldc2 (v := (-1)) dX7_addWord_47 kw_5_52 ?_
      refine J_lxor dX7_addWord_50 ?_
      refine J_aload_n 2 dX7_addWord_51 rv_is rfl ?_
      refine J_getR kc_7 4 (by decide) rfl rfl kw_2_221 dX7_addWord_52 g5 ?_
      refine J_getR kc_3 1 (by decide) rfl rfl kw_2_117 dX7_addWord_55 g11 ?_
      refine J_iload 0 dX7_addWord_58 rfl ?_
      refine J_G (fun g14 => ?_)
      refine J_G (fun g15 => ?_)
      refine J_lald dX7_addWord_60 g14 g15 ?_
      refine J_ldc2 (v := (-1)) dX7_addWord_61 kw_5_52 ?_
      refine J_lxor dX7_addWord_64 ?_
      refine J_land dX7_addWord_65 ?_
      refine J_aload_n 2 dX7_addWord_66 rv_is rfl ?_
      refine J_getR kc_7 4 (by decide) rfl rfl kw_2_221 dX7_addWord_67 g5 ?_
      refine J_getR kc_3 2 (by decide) rfl rfl kw_2_122 dX7_addWord_70 g11 ?_
      refine J_aload 1 dX7_addWord_73 rv_is rfl ?_
      refine J_G (fun g16 => ?_)
      refine J_getI kc_1 6 (by decide) rfl rfl kw_1_69 dX7_addWord_75 g16 ?_
      refine J_bipush (v := nI 7) dX7_addWord_78 rfl ?_
      refine J_imul dX7_addWord_80 ?_
      refine J_iload_n 4 dX7_addWord_81 rfl ?_
      refine J_iadd dX7_addWord_82 ?_
      refine J_G (fun g17 => ?_)
      refine J_G (fun g18 => ?_)
      refine J_lald dX7_addWord_83 g17 g18 ?_
      refine J_ldc2 (v := (-1)) dX7_addWord_84 kw_5_52 ?_
      refine J_lxor dX7_addWord_87 ?_
      refine J_land dX7_addWord_88 ?_
      refine J_LTl (fun w19 => ?_)
      refine J_lstore dX7_addWord_89 (by decide) (SD.a (lvr := [(6, rv (zx x) r9), (0, rv (zx x) a0), (1, .int i1), (2, .int i2), (3, .int i3), (4, .long l4)]) [1, 2, 3, 4, 5, 6] rfl rfl) rfl ?_
      refine J_lload 0 dX7_addWord_91 rfl ?_
      refine J_aload_n 2 dX7_addWord_93 rv_is rfl ?_
      refine J_aload 1 dX7_addWord_94 rv_is rfl ?_
      refine J_aload 1 dX7_addWord_96 rv_is rfl ?_
      refine J_getI kc_1 6 (by decide) rfl rfl kw_1_69 dX7_addWord_98 g16 ?_
      refine J_aload_n 2 dX7_addWord_101 rv_is rfl ?_
      refine J_getR kc_7 3 (by decide) rfl rfl kw_2_220 dX7_addWord_102 g5 ?_
      refine J_iload_n 3 dX7_addWord_105 rfl ?_
      refine J_iload_n 4 dX7_addWord_106 rfl ?_
      refine J_G (fun g20 => ?_)
      refine J.callV (n := 2) (As := [.int i1, .int i2]) kc_8 (ctX8_caseTick (lx x) (wx x) (xR h3 a0 3) i1 i2 h3) kw_5_70 kw_5_67 kw_5_68 kw_5_69 kw_1_10 (by decide +kernel) rfl (by decide) (by simp [rv_cat, cat_I, cat_L, cat_S]) rfl dX7_addWord_107 g20 (fun v22 h21 => ?_)
      show J x _ _ 110 _ [.int v22, .int (xI h3 r9 6), rv (zx x) r9, rv (zx x) a0, .long w19] h21 _
      refine J_G (fun g23 => ?_)
      refine J.callV (n := 3) (As := [rv (zx x) r9, .int (xI h3 r9 6), .int v22]) kc_7 (ctX7_casesStand (lx x) (wx x) a0 r9 (xI h3 r9 6) v22 h21) kw_5_74 kw_5_71 kw_5_72 kw_5_73 kw_1_12 (by decide +kernel) rfl (by decide) (by simp [rv_cat, cat_I, cat_L, cat_S]) rfl dX7_addWord_110 g23 (fun w25 h24 => ?_)
      show J x _ _ 113 _ [.long w25, .long w19] h24 _
      refine J_land dX7_addWord_113 ?_
      refine J_LTl (fun w26 => ?_)
      refine J_lstore dX7_addWord_114 (by decide) (SD.a (lvr := [(6, rv (zx x) r9), (0, rv (zx x) a0), (3, .int i3), (4, .long l4)]) [1, 2, 5, 6] rfl rfl) rfl ?_
      refine J_aload_n 2 dX7_addWord_116 rv_is rfl ?_
      refine J_G (fun g27 => ?_)
      refine J_getR kc_7 0 (by decide) rfl rfl kw_2_216 dX7_addWord_117 g27 ?_
      refine J_iload_n 3 dX7_addWord_120 rfl ?_
      refine J_aload 1 dX7_addWord_121 rv_is rfl ?_
      refine J_G (fun g28 => ?_)
      refine J_getI kc_1 7 (by decide) rfl rfl kw_1_74 dX7_addWord_123 g28 ?_
      refine J.callSN (n := 2) (As := [.int i3, .int (xI h24 r9 7)]) (ctX11_cell (lx x) (wx x) i3 (xI h24 r9 7) h24) kw_4_149 kn_7 kw_4_148 kw_1_1 (by decide +kernel) rfl (by decide) (by simp [rv_cat, cat_I, cat_L, cat_S]) rfl dX7_addWord_126 (fun v30 h29 => ?_)
      show J x _ _ 129 _ [.int v30, rv (zx x) (xR h24 a0 0)] h29 _
      refine J_bipush (v := nI 10) dX7_addWord_129 rfl ?_
      refine J_imul dX7_addWord_131 ?_
      refine J_aload 1 dX7_addWord_132 rv_is rfl ?_
      refine J_G (fun g31 => ?_)
      refine J_getI kc_1 3 (by decide) rfl rfl kw_1_61 dX7_addWord_134 g31 ?_
      refine J_iadd dX7_addWord_137 ?_
      refine J_dup2 dX7_addWord_138 rfl rv_cat ?_
      refine J_G (fun g32 => ?_)
      refine J_G (fun g33 => ?_)
      refine J_lald dX7_addWord_139 g32 g33 ?_
      refine J_lload 0 dX7_addWord_140 rfl ?_
      refine J_lload 4 dX7_addWord_142 rfl ?_
      refine J_land dX7_addWord_144 ?_
      refine J_lor dX7_addWord_145 ?_
      refine J_G (fun g34 => ?_)
      refine J_last dX7_addWord_146 g32 g34 ?_
      refine J_LTh (fun h35 => ?_)
      exact J_vret dX7_addWord_147
    · exact J_vret dX7_addWord_17
theorem ctX7_addWord (l : Launch) (w : WT) (a0 : Nat) (i1 : Int32) (i2 : Int32) (i3 : Int32) (l4 : Int64) (h : AH) : CM l w yX7_addWord cX7_addWord 10 none 1 27 KV [rv (w.1) a0, .int i1, .int i2, .int i3, .long l4] h (X7_addWord_f a0 i1 i2 i3 l4 h) :=
  CM.of (by decide +kernel) (by simp [lg_sl, rv_cat, cat_I, cat_L, cat_S]) (lv := [(0, rv (w.1) a0), (1, .int i1), (2, .int i2), (3, .int i3), (4, .long l4)]) (by simp [lv_args, rv_cat, cat_I, cat_L, cat_S]) (fun x hx => by subst hx; exact jX7_addWord x a0 i1 i2 i3 l4 h)
-- FallTrials$Support.addKept(IIJ)V
abbrev qX7_addKept : MT := (cX7_addKept, RX7, "addKept", none, 2, 45, 9)
def X7_addKept_B94 (k42 : (Nat → Int64 → Int32 → Int32 → Int32 → AH → Option (Unit × AH))) (a0 : Nat) (l3 : Int64) (i6 : Int32) (i7 : Int32) (i8 : Int32) (h : AH) : Option (Unit × AH) :=
  LT (i8 + nI 1) fun v1 =>
  k42 a0 l3 i6 i7 v1 h
theorem jX7_addKept_B94 (x : CT) (k42 : (Nat → Int64 → Int32 → Int32 → Int32 → AH → Option (Unit × AH))) (hk42 : ∀ (a0 : Nat) (l3 : Int64) (i6 : Int32) (i7 : Int32) (i8 : Int32) (h : AH), J x qX7_addKept ZV 42 [(0, rv (zx x) a0), (3, .long l3), (6, .int i6), (7, .int i7), (8, .int i8)] [] h (k42 a0 l3 i6 i7 i8 h)) (a0 : Nat) (l3 : Int64) (i6 : Int32) (i7 : Int32) (i8 : Int32) (h : AH) : J x qX7_addKept ZV 94 [(0, rv (zx x) a0), (3, .long l3), (6, .int i6), (7, .int i7), (8, .int i8)] [] h (X7_addKept_B94 k42 a0 l3 i6 i7 i8 h) := by
  unfold X7_addKept_B94
  refine J_iincL (u := i8 + nI 1) 4 dX7_addKept_94 rfl rfl (by decide) (SD.a (lvr := [(0, rv (zx x) a0), (3, .long l3), (6, .int i6), (7, .int i7)]) [0, 1, 2, 3] rfl rfl) (fun v1 => ?_)
  refine J_goto (tgt := 42) dX7_addKept_97 rfl ?_
  exact J_sub [1, 2, 3, 4, 0] rfl (hk42 a0 l3 i6 i7 v1 h)
def X7_addKept_B42 : Nat → Nat → Int64 → Int32 → Int32 → Int32 → AH → Option (Unit × AH)
  | 0, _, _, _, _, _, _ => none
  | n + 1, a0, l3, i6, i7, i8, h =>
    G (xc h a0 = 7) <|
    G (xc h (xR h a0 2) = 0) <|
    if (xI h (xR h a0 2) 1) ≤ i8 then (
      some ((), h)
    ) else (
      G (xc h a0 = 7) <|
      G (xc h (xR h a0 1) = 10) <|
      if (((xI h (xR h a0 1) 3) >>> (i8 &&& 31)) &&& (nI 1)) = 0 then (
        X7_addKept_B94 (X7_addKept_B42 n) a0 l3 i6 i7 i8 h
      ) else (
        G (xc h a0 = 7) <|
        G (xc h (xR h a0 0) = 17) <|
        G (gx (i6 + i8) (xz h (xR h a0 0))) <|
        G (gx (i7 + i8) (xz h (xR h a0 0))) <|
        G (gx (i6 + i8) (xz h (xR h a0 0))) <|
        LT (pL h (xR h a0 0) (i6 + i8).toNatClampNeg ((xL h (xR h a0 0) (i6 + i8).toNatClampNeg) ||| ((xL h (xR h a0 0) (i7 + i8).toNatClampNeg) &&& l3))) fun h10 =>
        X7_addKept_B94 (X7_addKept_B42 n) a0 l3 i6 i7 i8 h10
      )
    )
theorem jX7_addKept_B42 (x : CT) : ∀ (n : Nat) (a0 : Nat) (l3 : Int64) (i6 : Int32) (i7 : Int32) (i8 : Int32) (h : AH), J x qX7_addKept ZV 42 [(0, rv (zx x) a0), (3, .long l3), (6, .int i6), (7, .int i7), (8, .int i8)] [] h (X7_addKept_B42 n a0 l3 i6 i7 i8 h) := by
  intro n
  induction n with
  | zero => intro a0 l3 i6 i7 i8 h; exact J_none
  | succ n ih =>
    intro a0 l3 i6 i7 i8 h
    unfold X7_addKept_B42
    refine J_iload 4 dX7_addKept_42 rfl ?_
    refine J_aload_n 0 dX7_addKept_44 rv_is rfl ?_
    refine J_G (fun g1 => ?_)
    refine J_getR kc_7 2 (by decide) rfl rfl kw_2_219 dX7_addKept_45 g1 ?_
    refine J_G (fun g2 => ?_)
    refine J_getI kc_0 1 (by decide) rfl rfl kw_1_111 dX7_addKept_48 g2 ?_
    refine J_icmp_ge (tgt := 100) dX7_addKept_51 rfl ?_ ?_
    · exact J_vret dX7_addKept_100
    · refine J_aload_n 0 dX7_addKept_54 rv_is rfl ?_
      refine J_G (fun g3 => ?_)
      refine J_getR kc_7 1 (by decide) rfl rfl kw_2_218 dX7_addKept_55 g3 ?_
      refine J_G (fun g4 => ?_)
      refine J_getI kc_10 3 (by decide) rfl rfl kw_2_31 dX7_addKept_58 g4 ?_
      refine J_iload 4 dX7_addKept_61 rfl ?_
      refine J_ishr dX7_addKept_63 ?_
      refine J_iconst (v := nI 1) dX7_addKept_64 rfl ?_
      refine J_iand dX7_addKept_65 ?_
      refine J_if_eq (tgt := 94) dX7_addKept_66 rfl ?_ ?_
      · exact (jX7_addKept_B94 x (X7_addKept_B42 n) ih a0 l3 i6 i7 i8 h)
      · refine J_aload_n 0 dX7_addKept_69 rv_is rfl ?_
        refine J_G (fun g5 => ?_)
        refine J_getR kc_7 0 (by decide) rfl rfl kw_2_216 dX7_addKept_70 g5 ?_
        refine J_iload 2 dX7_addKept_73 rfl ?_
        refine J_iload 4 dX7_addKept_75 rfl ?_
        refine J_iadd dX7_addKept_77 ?_
        refine J_dup2 dX7_addKept_78 rfl rv_cat ?_
        refine J_G (fun g6 => ?_)
        refine J_G (fun g7 => ?_)
        refine J_lald dX7_addKept_79 g6 g7 ?_
        refine J_aload_n 0 dX7_addKept_80 rv_is rfl ?_
        refine J_getR kc_7 0 (by decide) rfl rfl kw_2_216 dX7_addKept_81 g5 ?_
        refine J_iload 3 dX7_addKept_84 rfl ?_
        refine J_iload 4 dX7_addKept_86 rfl ?_
        refine J_iadd dX7_addKept_88 ?_
        refine J_G (fun g8 => ?_)
        refine J_lald dX7_addKept_89 g6 g8 ?_
        refine J_lload_n 1 dX7_addKept_90 rfl ?_
        refine J_land dX7_addKept_91 ?_
        refine J_lor dX7_addKept_92 ?_
        refine J_G (fun g9 => ?_)
        refine J_last dX7_addKept_93 g6 g9 ?_
        refine J_LTh (fun h10 => ?_)
        exact (jX7_addKept_B94 x (X7_addKept_B42 n) ih a0 l3 i6 i7 i8 h10)
def X7_addKept_f (a0 : Nat) (i1 : Int32) (i2 : Int32) (l3 : Int64) (h : AH) : Option (Unit × AH) :=
  G (xc h a0 = 7) <|
  G (xc h (xR h a0 3) = 8) <|
  BN (X8_tickAhead_f (xR h a0 3) i1 i2 h) fun v4 h3 =>
  if v4 = (-1) then (
    some ((), h3)
  ) else (
    BN (X11_cell_f i2 i1 h3) fun v6 h5 =>
    LT (v6 * (nI 10)) fun v7 =>
    BN (X11_cell_f v4 i1 h5) fun v9 h8 =>
    LT (v9 * (nI 10)) fun v10 =>
    X7_addKept_B42 FU a0 l3 v7 v10 (nI 0) h8
  )
theorem jX7_addKept (x : CT) (a0 : Nat) (i1 : Int32) (i2 : Int32) (l3 : Int64) (h : AH) : J x qX7_addKept ZV 0 [(0, rv (zx x) a0), (1, .int i1), (2, .int i2), (3, .long l3)] [] h (X7_addKept_f a0 i1 i2 l3 h) := by
  unfold X7_addKept_f
  refine J_aload_n 0 dX7_addKept_0 rv_is rfl ?_
  refine J_G (fun g1 => ?_)
  refine J_getR kc_7 3 (by decide) rfl rfl kw_2_220 dX7_addKept_1 g1 ?_
  refine J_iload_n 1 dX7_addKept_4 rfl ?_
  refine J_iload_n 2 dX7_addKept_5 rfl ?_
  refine J_G (fun g2 => ?_)
  refine J.callV (n := 2) (As := [.int i1, .int i2]) kc_8 (ctX8_tickAhead (lx x) (wx x) (xR h a0 3) i1 i2 h) kw_5_8 kw_5_79 kw_5_6 kw_5_7 kw_1_10 (by decide +kernel) rfl (by decide) (Nat.zero_le _) rfl dX7_addKept_6 g2 (fun v4 h3 => ?_)
  show J x _ _ 9 _ [.int v4] h3 _
  refine J_istore dX7_addKept_9 (by decide) (SD.a (lvr := [(0, rv (zx x) a0), (1, .int i1), (2, .int i2), (3, .long l3)]) [0, 1, 2, 3] rfl rfl) ?_
  refine J_iload 0 dX7_addKept_11 rfl ?_
  refine J_iconst (v := (-1)) dX7_addKept_13 rfl ?_
  refine J_icmp_ne (tgt := 18) dX7_addKept_14 rfl ?_ ?_
  · refine J_iload_n 3 dX7_addKept_18 rfl ?_
    refine J_iload_n 2 dX7_addKept_19 rfl ?_
    refine J.callSN (n := 2) (As := [.int i2, .int i1]) (ctX11_cell (lx x) (wx x) i2 i1 h3) kw_4_149 kn_7 kw_4_148 kw_1_1 (by decide +kernel) rfl (by decide) (Nat.zero_le _) rfl dX7_addKept_20 (fun v6 h5 => ?_)
    show J x _ _ 23 _ [.int v6] h5 _
    refine J_bipush (v := nI 10) dX7_addKept_23 rfl ?_
    refine J_imul dX7_addKept_25 ?_
    refine J_LTi (fun v7 => ?_)
    refine J_istore dX7_addKept_26 (by decide) (SD.a (lvr := [(5, .int v4), (0, rv (zx x) a0), (1, .int i1), (3, .long l3)]) [0, 1, 2, 4] rfl rfl) ?_
    refine J_iload 1 dX7_addKept_28 rfl ?_
    refine J_iload_n 3 dX7_addKept_30 rfl ?_
    refine J.callSN (n := 2) (As := [.int v4, .int i1]) (ctX11_cell (lx x) (wx x) v4 i1 h5) kw_4_149 kn_7 kw_4_148 kw_1_1 (by decide +kernel) rfl (by decide) (Nat.zero_le _) rfl dX7_addKept_31 (fun v9 h8 => ?_)
    show J x _ _ 34 _ [.int v9] h8 _
    refine J_bipush (v := nI 10) dX7_addKept_34 rfl ?_
    refine J_imul dX7_addKept_36 ?_
    refine J_LTi (fun v10 => ?_)
    refine J_istore dX7_addKept_37 (by decide) (SD.a (lvr := [(6, .int v7), (0, rv (zx x) a0), (3, .long l3)]) [0, 2, 4] rfl rfl) ?_
    refine J_iconst (v := nI 0) dX7_addKept_39 rfl ?_
    refine J_istore dX7_addKept_40 (by decide) (SD.a (lvr := [(7, .int v10), (6, .int v7), (0, rv (zx x) a0), (3, .long l3)]) [0, 1, 2, 3] rfl rfl) ?_
    exact J_sub [3, 4, 2, 1, 0] rfl (jX7_addKept_B42 x FU a0 l3 v7 v10 (nI 0) h8)
  · exact J_vret dX7_addKept_17
theorem ctX7_addKept (l : Launch) (w : WT) (a0 : Nat) (i1 : Int32) (i2 : Int32) (l3 : Int64) (h : AH) : CM l w yX7_addKept cX7_addKept 9 none 2 45 KV [rv (w.1) a0, .int i1, .int i2, .long l3] h (X7_addKept_f a0 i1 i2 l3 h) :=
  CM.of (by decide +kernel) (by simp [lg_sl, rv_cat, cat_I, cat_L, cat_S]) (lv := [(0, rv (w.1) a0), (1, .int i1), (2, .int i2), (3, .long l3)]) (by simp [lv_args, rv_cat, cat_I, cat_L, cat_S]) (fun x hx => by subst hx; exact jX7_addKept x a0 i1 i2 l3 h)
-- FallTrials$Support.addNow(II)V
abbrev qX7_addNow : MT := (cX7_addNow, RX7, "addNow", none, 1, 27, 10)
def X7_addNow_B141 (k15 : (Nat → Int32 → Int32 → Int32 → Int32 → Int32 → AH → Option (Unit × AH))) (a0 : Nat) (i1 : Int32) (i2 : Int32) (i3 : Int32) (i4 : Int32) (i5 : Int32) (h : AH) : Option (Unit × AH) :=
  LT (i5 + nI 1) fun v1 =>
  k15 a0 i1 i2 i3 i4 v1 h
theorem jX7_addNow_B141 (x : CT) (k15 : (Nat → Int32 → Int32 → Int32 → Int32 → Int32 → AH → Option (Unit × AH))) (hk15 : ∀ (a0 : Nat) (i1 : Int32) (i2 : Int32) (i3 : Int32) (i4 : Int32) (i5 : Int32) (h : AH), J x qX7_addNow ZV 15 [(0, rv (zx x) a0), (1, .int i1), (2, .int i2), (3, .int i3), (4, .int i4), (5, .int i5)] [] h (k15 a0 i1 i2 i3 i4 i5 h)) (a0 : Nat) (i1 : Int32) (i2 : Int32) (i3 : Int32) (i4 : Int32) (i5 : Int32) (h : AH) : J x qX7_addNow ZV 141 [(0, rv (zx x) a0), (1, .int i1), (2, .int i2), (3, .int i3), (4, .int i4), (5, .int i5)] [] h (X7_addNow_B141 k15 a0 i1 i2 i3 i4 i5 h) := by
  unfold X7_addNow_B141
  refine J_iincL (u := i5 + nI 1) 5 dX7_addNow_141 rfl rfl (by decide) (SD.a (lvr := [(0, rv (zx x) a0), (1, .int i1), (2, .int i2), (3, .int i3), (4, .int i4)]) [0, 1, 2, 3, 4] rfl rfl) (fun v1 => ?_)
  refine J_goto (tgt := 15) dX7_addNow_144 rfl ?_
  exact J_sub [1, 2, 3, 4, 5, 0] rfl (hk15 a0 i1 i2 i3 i4 v1 h)
def X7_addNow_B135 (k15 : (Nat → Int32 → Int32 → Int32 → Int32 → Int32 → AH → Option (Unit × AH))) (k33 : (Nat → Int32 → Int32 → Int32 → Int32 → Int32 → Int32 → AH → Option (Unit × AH))) (a0 : Nat) (i1 : Int32) (i2 : Int32) (i3 : Int32) (i4 : Int32) (i5 : Int32) (i6 : Int32) (h : AH) : Option (Unit × AH) :=
  LT (i6 + nI 1) fun v1 =>
  k33 a0 i1 i2 i3 i4 i5 v1 h
theorem jX7_addNow_B135 (x : CT) (k15 : (Nat → Int32 → Int32 → Int32 → Int32 → Int32 → AH → Option (Unit × AH))) (hk15 : ∀ (a0 : Nat) (i1 : Int32) (i2 : Int32) (i3 : Int32) (i4 : Int32) (i5 : Int32) (h : AH), J x qX7_addNow ZV 15 [(0, rv (zx x) a0), (1, .int i1), (2, .int i2), (3, .int i3), (4, .int i4), (5, .int i5)] [] h (k15 a0 i1 i2 i3 i4 i5 h)) (k33 : (Nat → Int32 → Int32 → Int32 → Int32 → Int32 → Int32 → AH → Option (Unit × AH))) (hk33 : ∀ (a0 : Nat) (i1 : Int32) (i2 : Int32) (i3 : Int32) (i4 : Int32) (i5 : Int32) (i6 : Int32) (h : AH), J x qX7_addNow ZV 33 [(0, rv (zx x) a0), (1, .int i1), (2, .int i2), (3, .int i3), (4, .int i4), (5, .int i5), (6, .int i6)] [] h (k33 a0 i1 i2 i3 i4 i5 i6 h)) (a0 : Nat) (i1 : Int32) (i2 : Int32) (i3 : Int32) (i4 : Int32) (i5 : Int32) (i6 : Int32) (h : AH) : J x qX7_addNow ZV 135 [(0, rv (zx x) a0), (1, .int i1), (2, .int i2), (3, .int i3), (4, .int i4), (5, .int i5), (6, .int i6)] [] h (X7_addNow_B135 k15 k33 a0 i1 i2 i3 i4 i5 i6 h) := by
  unfold X7_addNow_B135
  refine J_iincL (u := i6 + nI 1) 6 dX7_addNow_135 rfl rfl (by decide) (SD.a (lvr := [(0, rv (zx x) a0), (1, .int i1), (2, .int i2), (3, .int i3), (4, .int i4), (5, .int i5)]) [0, 1, 2, 3, 4, 5] rfl rfl) (fun v1 => ?_)
  refine J_goto (tgt := 33) dX7_addNow_138 rfl ?_
  exact J_sub [1, 2, 3, 4, 5, 6, 0] rfl (hk33 a0 i1 i2 i3 i4 i5 v1 h)
def X7_addNow_B132 (k15 : (Nat → Int32 → Int32 → Int32 → Int32 → Int32 → AH → Option (Unit × AH))) (k33 : (Nat → Int32 → Int32 → Int32 → Int32 → Int32 → Int32 → AH → Option (Unit × AH))) (a0 : Nat) (i1 : Int32) (i2 : Int32) (i3 : Int32) (i5 : Int32) (i6 : Int32) (is0 : Int32) (is1 : Int32) (h : AH) : Option (Unit × AH) :=
  LT (is1 ||| is0) fun v1 =>
  X7_addNow_B135 k15 k33 a0 i1 i2 i3 v1 i5 i6 h
theorem jX7_addNow_B132 (x : CT) (k15 : (Nat → Int32 → Int32 → Int32 → Int32 → Int32 → AH → Option (Unit × AH))) (hk15 : ∀ (a0 : Nat) (i1 : Int32) (i2 : Int32) (i3 : Int32) (i4 : Int32) (i5 : Int32) (h : AH), J x qX7_addNow ZV 15 [(0, rv (zx x) a0), (1, .int i1), (2, .int i2), (3, .int i3), (4, .int i4), (5, .int i5)] [] h (k15 a0 i1 i2 i3 i4 i5 h)) (k33 : (Nat → Int32 → Int32 → Int32 → Int32 → Int32 → Int32 → AH → Option (Unit × AH))) (hk33 : ∀ (a0 : Nat) (i1 : Int32) (i2 : Int32) (i3 : Int32) (i4 : Int32) (i5 : Int32) (i6 : Int32) (h : AH), J x qX7_addNow ZV 33 [(0, rv (zx x) a0), (1, .int i1), (2, .int i2), (3, .int i3), (4, .int i4), (5, .int i5), (6, .int i6)] [] h (k33 a0 i1 i2 i3 i4 i5 i6 h)) (a0 : Nat) (i1 : Int32) (i2 : Int32) (i3 : Int32) (i5 : Int32) (i6 : Int32) (is0 : Int32) (is1 : Int32) (h : AH) : J x qX7_addNow ZV 132 [(0, rv (zx x) a0), (1, .int i1), (2, .int i2), (3, .int i3), (5, .int i5), (6, .int i6)] [.int is0, .int is1] h (X7_addNow_B132 k15 k33 a0 i1 i2 i3 i5 i6 is0 is1 h) := by
  unfold X7_addNow_B132
  refine J_ior dX7_addNow_132 ?_
  refine J_LTi (fun v1 => ?_)
  refine J_istore dX7_addNow_133 (by decide) (SD.a (lvr := [(0, rv (zx x) a0), (1, .int i1), (2, .int i2), (3, .int i3), (5, .int i5), (6, .int i6)]) [0, 1, 2, 3, 4, 5] rfl rfl) ?_
  exact J_sub [1, 2, 3, 4, 0, 5, 6] rfl (jX7_addNow_B135 x k15 hk15 k33 hk33 a0 i1 i2 i3 v1 i5 i6 h)
def X7_addNow_B33 (k15 : (Nat → Int32 → Int32 → Int32 → Int32 → Int32 → AH → Option (Unit × AH))) : Nat → Nat → Int32 → Int32 → Int32 → Int32 → Int32 → Int32 → AH → Option (Unit × AH)
  | 0, _, _, _, _, _, _, _, _ => none
  | n + 1, a0, i1, i2, i3, i4, i5, i6, h =>
    G (xc h a0 = 7) <|
    G (xc h (xR h a0 2) = 0) <|
    if (xI h (xR h a0 2) 3) ≤ i6 then (
      X7_addNow_B141 k15 a0 i1 i2 i3 i4 i5 h
    ) else (
      G (xc h a0 = 7) <|
      G (xc h (xR h a0 2) = 0) <|
      G (xc h (xR h (xR h a0 2) 10) = 20) <|
      G (gx i6 (xz h (xR h (xR h a0 2) 10))) <|
      LT (xR h (xR h (xR h a0 2) 10) i6.toNatClampNeg) fun r7 =>
      G (xc h r7 = 1) <|
      if (xI h r7 8) = 0 then (
        X7_addNow_B135 k15 (X7_addNow_B33 k15 n) a0 i1 i2 i3 i4 i5 i6 h
      ) else (
        G (xc h r7 = 1) <|
        BN (X1_isFor_f r7 i1 h) fun v11 h10 =>
        if v11 = 0 then (
          X7_addNow_B135 k15 (X7_addNow_B33 k15 n) a0 i1 i2 i3 i4 i5 i6 h10
        ) else (
          G (xc h10 a0 = 7) <|
          BN (X7_casesStand_f a0 r7 i1 i2 h10) fun w14 h13 =>
          G (xc h13 a0 = 7) <|
          G (xc h13 r7 = 1) <|
          G (xc h13 (xR h13 a0 0) = 17) <|
          G (gx (i3 + (xI h13 r7 3)) (xz h13 (xR h13 a0 0))) <|
          LT (w14 &&& ((xL h13 (xR h13 a0 0) (i3 + (xI h13 r7 3)).toNatClampNeg) ^^^ (-1))) fun w19 =>
          G (gx (i3 + (xI h13 r7 3)) (xz h13 (xR h13 a0 0))) <|
          G (gx (i3 + (xI h13 r7 3)) (xz h13 (xR h13 a0 0))) <|
          LT (pL h13 (xR h13 a0 0) (i3 + (xI h13 r7 3)).toNatClampNeg ((xL h13 (xR h13 a0 0) (i3 + (xI h13 r7 3)).toNatClampNeg) ||| w19)) fun h22 =>
          if (lg_cmp w19 (lN 0)) = 0 then (
            X7_addNow_B132 k15 (X7_addNow_B33 k15 n) a0 i1 i2 i3 i5 i6 (nI 0) i4 h22
          ) else (
            X7_addNow_B132 k15 (X7_addNow_B33 k15 n) a0 i1 i2 i3 i5 i6 (nI 1) i4 h22
          )
        )
      )
    )
theorem jX7_addNow_B33 (x : CT) (k15 : (Nat → Int32 → Int32 → Int32 → Int32 → Int32 → AH → Option (Unit × AH))) (hk15 : ∀ (a0 : Nat) (i1 : Int32) (i2 : Int32) (i3 : Int32) (i4 : Int32) (i5 : Int32) (h : AH), J x qX7_addNow ZV 15 [(0, rv (zx x) a0), (1, .int i1), (2, .int i2), (3, .int i3), (4, .int i4), (5, .int i5)] [] h (k15 a0 i1 i2 i3 i4 i5 h)) : ∀ (n : Nat) (a0 : Nat) (i1 : Int32) (i2 : Int32) (i3 : Int32) (i4 : Int32) (i5 : Int32) (i6 : Int32) (h : AH), J x qX7_addNow ZV 33 [(0, rv (zx x) a0), (1, .int i1), (2, .int i2), (3, .int i3), (4, .int i4), (5, .int i5), (6, .int i6)] [] h (X7_addNow_B33 k15 n a0 i1 i2 i3 i4 i5 i6 h) := by
  intro n
  induction n with
  | zero => intro a0 i1 i2 i3 i4 i5 i6 h; exact J_none
  | succ n ih =>
    intro a0 i1 i2 i3 i4 i5 i6 h
    unfold X7_addNow_B33
    refine J_iload 6 dX7_addNow_33 rfl ?_
    refine J_aload_n 0 dX7_addNow_35 rv_is rfl ?_
    refine J_G (fun g1 => ?_)
    refine J_getR kc_7 2 (by decide) rfl rfl kw_2_219 dX7_addNow_36 g1 ?_
    refine J_G (fun g2 => ?_)
    refine J_getI kc_0 3 (by decide) rfl rfl kw_1_121 dX7_addNow_39 g2 ?_
    refine J_icmp_ge (tgt := 141) dX7_addNow_42 rfl ?_ ?_
    · exact J_sub [0, 1, 2, 3, 4, 5] rfl (jX7_addNow_B141 x k15 hk15 a0 i1 i2 i3 i4 i5 h)
    · refine J_aload_n 0 dX7_addNow_45 rv_is rfl ?_
      refine J_G (fun g3 => ?_)
      refine J_getR kc_7 2 (by decide) rfl rfl kw_2_219 dX7_addNow_46 g3 ?_
      refine J_G (fun g4 => ?_)
      refine J_getR kc_0 10 (by decide) rfl rfl kw_1_142 dX7_addNow_49 g4 ?_
      refine J_iload 6 dX7_addNow_52 rfl ?_
      refine J_G (fun g5 => ?_)
      refine J_G (fun g6 => ?_)
      refine J_aald (t := 20) (t0 := 4) (Cn := RX1) (by decide) (by decide) (fun _ => rfl) dX7_addNow_54 g5 g6 ?_
      refine J_LTr (fun r7 => ?_)
      refine J_astore rv_is dX7_addNow_55 (by decide) (SD.a (lvr := [(0, rv (zx x) a0), (1, .int i1), (2, .int i2), (3, .int i3), (4, .int i4), (5, .int i5), (6, .int i6)]) [0, 1, 2, 3, 4, 5, 6] rfl rfl) ?_
      refine J_aload 0 dX7_addNow_57 rv_is rfl ?_
      refine J_G (fun g8 => ?_)
      refine J_getI kc_1 8 (by decide) rfl rfl kw_1_79 dX7_addNow_59 g8 ?_
      refine J_if_eq (tgt := 135) dX7_addNow_62 rfl ?_ ?_
      · exact J_sub [1, 2, 3, 4, 5, 6, 7] rfl (jX7_addNow_B135 x k15 hk15 (X7_addNow_B33 k15 n) ih a0 i1 i2 i3 i4 i5 i6 h)
      · refine J_aload 0 dX7_addNow_65 rv_is rfl ?_
        refine J_iload_n 2 dX7_addNow_67 rfl ?_
        refine J_G (fun g9 => ?_)
        refine J.callV (n := 1) (As := [.int i1]) kc_1 (ctX1_isFor (lx x) (wx x) r7 i1 h) kw_4_161 kw_5_89 kw_4_159 kw_4_160 kw_1_3 (by decide +kernel) rfl (by decide) (Nat.zero_le _) rfl dX7_addNow_68 g9 (fun v11 h10 => ?_)
        show J x _ _ 71 _ [.int v11] h10 _
        refine J_if_eq (tgt := 135) dX7_addNow_71 rfl ?_ ?_
        · exact J_sub [1, 2, 3, 4, 5, 6, 7] rfl (jX7_addNow_B135 x k15 hk15 (X7_addNow_B33 k15 n) ih a0 i1 i2 i3 i4 i5 i6 h10)
        · refine J_aload_n 1 dX7_addNow_74 rv_is rfl ?_
          refine J_aload 0 dX7_addNow_75 rv_is rfl ?_
          refine J_iload_n 2 dX7_addNow_77 rfl ?_
          refine J_iload_n 3 dX7_addNow_78 rfl ?_
          refine J_G (fun g12 => ?_)
          refine J.callV (n := 3) (As := [rv (zx x) r7, .int i1, .int i2]) kc_7 (ctX7_casesStand (lx x) (wx x) a0 r7 i1 i2 h10) kw_5_74 kw_5_71 kw_5_72 kw_5_73 kw_1_12 (by decide +kernel) rfl (by decide) (Nat.zero_le _) rfl dX7_addNow_79 g12 (fun w14 h13 => ?_)
          show J x _ _ 82 _ [.long w14] h13 _
          refine J_aload_n 1 dX7_addNow_82 rv_is rfl ?_
          refine J_G (fun g15 => ?_)
          refine J_getR kc_7 0 (by decide) rfl rfl kw_2_216 dX7_addNow_83 g15 ?_
          refine J_iload_n 4 dX7_addNow_86 rfl ?_
          refine J_aload 0 dX7_addNow_87 rv_is rfl ?_
          refine J_G (fun g16 => ?_)
          refine J_getI kc_1 3 (by decide) rfl rfl kw_1_61 dX7_addNow_89 g16 ?_
          refine J_iadd dX7_addNow_92 ?_
          refine J_G (fun g17 => ?_)
          refine J_G (fun g18 => ?_)
          refine J_lald dX7_addNow_93 g17 g18 ?_
          refine J_ldc2 (v := (-1)) dX7_addNow_94 kw_5_52 ?_
          refine J_lxor dX7_addNow_97 ?_
          refine J_land dX7_addNow_98 ?_
          refine J_LTl (fun w19 => ?_)
          refine J_lstore dX7_addNow_99 (by decide) (SD.c (lvr := [(7, rv (zx x) r7), (0, rv (zx x) a0), (1, .int i1), (2, .int i2), (3, .int i3), (4, .int i4), (5, .int i5), (6, .int i6)]) [0, 1, 2, 3, 4, 5, 6, 7] rfl rfl 0 rfl rfl rv_cat) rfl ?_
          refine J_aload_n 2 dX7_addNow_101 rv_is rfl ?_
          refine J_getR kc_7 0 (by decide) rfl rfl kw_2_216 dX7_addNow_102 g15 ?_
          refine J_iload_n 5 dX7_addNow_105 rfl ?_
          refine J_aload 1 dX7_addNow_106 rv_is rfl ?_
          refine J_getI kc_1 3 (by decide) rfl rfl kw_1_61 dX7_addNow_108 g16 ?_
          refine J_iadd dX7_addNow_111 ?_
          refine J_dup2 dX7_addNow_112 rfl rv_cat ?_
          refine J_G (fun g20 => ?_)
          refine J_lald dX7_addNow_113 g17 g20 ?_
          refine J_lload 0 dX7_addNow_114 rfl ?_
          refine J_lor dX7_addNow_116 ?_
          refine J_G (fun g21 => ?_)
          refine J_last dX7_addNow_117 g17 g21 ?_
          refine J_LTh (fun h22 => ?_)
          refine J_iload 6 dX7_addNow_118 rfl ?_
          refine J_lload 0 dX7_addNow_120 rfl ?_
          refine J_lconst (v := lN 0) dX7_addNow_122 rfl ?_
          refine J_lcmp dX7_addNow_123 ?_
          refine J_if_eq (tgt := 131) dX7_addNow_124 rfl ?_ ?_
          · refine J_iconst (v := nI 0) dX7_addNow_131 rfl ?_
            exact J_sub [2, 3, 4, 5, 7, 8] rfl (jX7_addNow_B132 x k15 hk15 (X7_addNow_B33 k15 n) ih a0 i1 i2 i3 i5 i6 (nI 0) i4 h22)
          · refine J_iconst (v := nI 1) dX7_addNow_127 rfl ?_
            refine J_goto (tgt := 132) dX7_addNow_128 rfl ?_
            exact J_sub [2, 3, 4, 5, 7, 8] rfl (jX7_addNow_B132 x k15 hk15 (X7_addNow_B33 k15 n) ih a0 i1 i2 i3 i5 i6 (nI 1) i4 h22)
def X7_addNow_B15 : Nat → Nat → Int32 → Int32 → Int32 → Int32 → Int32 → AH → Option (Unit × AH)
  | 0, _, _, _, _, _, _, _ => none
  | n + 1, a0, i1, i2, i3, i4, i5, h =>
    if (nI 10) ≤ i5 then (
      some ((), h)
    ) else (
      if i4 = 0 then (
        some ((), h)
      ) else (
        X7_addNow_B33 (X7_addNow_B15 n) FU a0 i1 i2 i3 (nI 0) i5 (nI 0) h
      )
    )
theorem jX7_addNow_B15 (x : CT) : ∀ (n : Nat) (a0 : Nat) (i1 : Int32) (i2 : Int32) (i3 : Int32) (i4 : Int32) (i5 : Int32) (h : AH), J x qX7_addNow ZV 15 [(0, rv (zx x) a0), (1, .int i1), (2, .int i2), (3, .int i3), (4, .int i4), (5, .int i5)] [] h (X7_addNow_B15 n a0 i1 i2 i3 i4 i5 h) := by
  intro n
  induction n with
  | zero => intro a0 i1 i2 i3 i4 i5 h; exact J_none
  | succ n ih =>
    intro a0 i1 i2 i3 i4 i5 h
    unfold X7_addNow_B15
    refine J_iload 5 dX7_addNow_15 rfl ?_
    refine J_bipush (v := nI 10) dX7_addNow_17 rfl ?_
    refine J_icmp_ge (tgt := 147) dX7_addNow_19 rfl ?_ ?_
    · exact J_vret dX7_addNow_147
    · refine J_iload 4 dX7_addNow_22 rfl ?_
      refine J_if_eq (tgt := 147) dX7_addNow_24 rfl ?_ ?_
      · exact J_vret dX7_addNow_147
      · refine J_iconst (v := nI 0) dX7_addNow_27 rfl ?_
        refine J_istore dX7_addNow_28 (by decide) (SD.a (lvr := [(0, rv (zx x) a0), (1, .int i1), (2, .int i2), (3, .int i3), (5, .int i5)]) [0, 1, 2, 3, 5] rfl rfl) ?_
        refine J_iconst (v := nI 0) dX7_addNow_30 rfl ?_
        refine J_istore dX7_addNow_31 (by decide) (SD.a (lvr := [(4, .int (nI 0)), (0, rv (zx x) a0), (1, .int i1), (2, .int i2), (3, .int i3), (5, .int i5)]) [0, 1, 2, 3, 4, 5] rfl rfl) ?_
        exact J_sub [2, 3, 4, 5, 1, 6, 0] rfl (jX7_addNow_B33 x (X7_addNow_B15 n) ih FU a0 i1 i2 i3 (nI 0) i5 (nI 0) h)
def X7_addNow_f (a0 : Nat) (i1 : Int32) (i2 : Int32) (h : AH) : Option (Unit × AH) :=
  BN (X11_cell_f i2 i1 h) fun v2 h1 =>
  LT (v2 * (nI 10)) fun v3 =>
  X7_addNow_B15 FU a0 i1 i2 v3 (nI 1) (nI 0) h1
theorem jX7_addNow (x : CT) (a0 : Nat) (i1 : Int32) (i2 : Int32) (h : AH) : J x qX7_addNow ZV 0 [(0, rv (zx x) a0), (1, .int i1), (2, .int i2)] [] h (X7_addNow_f a0 i1 i2 h) := by
  unfold X7_addNow_f
  refine J_iload_n 2 dX7_addNow_0 rfl ?_
  refine J_iload_n 1 dX7_addNow_1 rfl ?_
  refine J.callSN (n := 2) (As := [.int i2, .int i1]) (ctX11_cell (lx x) (wx x) i2 i1 h) kw_4_149 kn_7 kw_4_148 kw_1_1 (by decide +kernel) rfl (by decide) (Nat.zero_le _) rfl dX7_addNow_2 (fun v2 h1 => ?_)
  show J x _ _ 5 _ [.int v2] h1 _
  refine J_bipush (v := nI 10) dX7_addNow_5 rfl ?_
  refine J_imul dX7_addNow_7 ?_
  refine J_LTi (fun v3 => ?_)
  refine J_istore_n dX7_addNow_8 (by decide) (SD.a (lvr := [(0, rv (zx x) a0), (1, .int i1), (2, .int i2)]) [0, 1, 2] rfl rfl) ?_
  refine J_iconst (v := nI 1) dX7_addNow_9 rfl ?_
  refine J_istore dX7_addNow_10 (by decide) (SD.a (lvr := [(3, .int v3), (0, rv (zx x) a0), (1, .int i1), (2, .int i2)]) [0, 1, 2, 3] rfl rfl) ?_
  refine J_iconst (v := nI 0) dX7_addNow_12 rfl ?_
  refine J_istore dX7_addNow_13 (by decide) (SD.a (lvr := [(4, .int (nI 1)), (3, .int v3), (0, rv (zx x) a0), (1, .int i1), (2, .int i2)]) [0, 1, 2, 3, 4] rfl rfl) ?_
  exact J_sub [3, 4, 5, 2, 1, 0] rfl (jX7_addNow_B15 x FU a0 i1 i2 v3 (nI 1) (nI 0) h1)
theorem ctX7_addNow (l : Launch) (w : WT) (a0 : Nat) (i1 : Int32) (i2 : Int32) (h : AH) : CM l w yX7_addNow cX7_addNow 10 none 1 27 KV [rv (w.1) a0, .int i1, .int i2] h (X7_addNow_f a0 i1 i2 h) :=
  CM.of (by decide +kernel) (by simp [lg_sl, rv_cat, cat_I, cat_L, cat_S]) (lv := [(0, rv (w.1) a0), (1, .int i1), (2, .int i2)]) (by simp [lv_args, rv_cat, cat_I, cat_L, cat_S]) (fun x hx => by subst hx; exact jX7_addNow x a0 i1 i2 h)
-- FallTrials$Trace.takeWord(LFallTrials$Works;LFallTrials$FallLanes;LFallTrials$Course;II)V
abbrev qX8_takeWord : MT := (cX8_takeWord, RX8, "takeWord", none, 1, 22, 10)
def X8_takeWord_B201 (is0 : Int32) (is1 : Int32) (as2 : Nat) (h : AH) : Option (Unit × AH) :=
  G (xc h as2 = 16) <|
  G (gx is1 (xz h as2)) <|
  LT (pI h as2 is1.toNatClampNeg is0) fun h3 =>
  some ((), h3)
theorem jX8_takeWord_B201 (x : CT) (is0 : Int32) (is1 : Int32) (as2 : Nat) (h : AH) : J x qX8_takeWord ZV 201 [] [.int is0, .int is1, rv (zx x) as2] h (X8_takeWord_B201 is0 is1 as2 h) := by
  unfold X8_takeWord_B201
  refine J_G (fun g1 => ?_)
  refine J_G (fun g2 => ?_)
  refine J_iast dX8_takeWord_201 g1 g2 ?_
  refine J_LTh (fun h3 => ?_)
  exact J_vret dX8_takeWord_202
def X8_takeWord_B174 (a0 : Nat) (i7 : Int32) (h : AH) : Option (Unit × AH) :=
  G (xc h a0 = 8) <|
  G (xc h (xR h a0 3) = 16) <|
  G (gx i7 (xz h (xR h a0 3))) <|
  LT (pI h (xR h a0 3) i7.toNatClampNeg (nI 4)) fun h4 =>
  some ((), h4)
theorem jX8_takeWord_B174 (x : CT) (a0 : Nat) (i7 : Int32) (h : AH) : J x qX8_takeWord ZV 174 [(0, rv (zx x) a0), (7, .int i7)] [] h (X8_takeWord_B174 a0 i7 h) := by
  unfold X8_takeWord_B174
  refine J_aload_n 0 dX8_takeWord_174 rv_is rfl ?_
  refine J_G (fun g1 => ?_)
  refine J_getR kc_8 3 (by decide) rfl rfl kw_2_144 dX8_takeWord_175 g1 ?_
  refine J_iload 1 dX8_takeWord_178 rfl ?_
  refine J_iconst (v := nI 4) dX8_takeWord_180 rfl ?_
  refine J_G (fun g2 => ?_)
  refine J_G (fun g3 => ?_)
  refine J_iast dX8_takeWord_181 g2 g3 ?_
  refine J_LTh (fun h4 => ?_)
  refine J_goto (tgt := 202) dX8_takeWord_182 rfl ?_
  exact J_vret dX8_takeWord_202
def X8_takeWord_B123 (a0 : Nat) (a1 : Nat) (a2 : Nat) (a6 : Nat) (i7 : Int32) (i8 : Int32) (is0 : Int32) (is1 : Int32) (h : AH) : Option (Unit × AH) :=
  LT (is1 + is0) fun v1 =>
  G (xc h a2 = 3) <|
  G (xc h (xR h a2 0) = 17) <|
  G (gx i7 (xz h (xR h a2 0))) <|
  if (lg_cmp ((xL h (xR h a2 0) i7.toNatClampNeg) &&& (lN 1)) (lN 0)) = 0 then (
    G (xc h a1 = 10) <|
    if (xI h a1 1) < v1 then (
      X8_takeWord_B174 a0 i7 h
    ) else (
      G (xc h a6 = 1) <|
      G (xc h a0 = 8) <|
      BN (X8_isDown_f a0 (xI h a6 7) v1 h) fun v9 h8 =>
      if v9 = 0 then (
        G (xc h8 a0 = 8) <|
        if i8 = 0 then (
          X8_takeWord_B201 (nI 1) i7 (xR h8 a0 3) h8
        ) else (
          X8_takeWord_B201 (nI 3) i7 (xR h8 a0 3) h8
        )
      ) else (
        X8_takeWord_B174 a0 i7 h8
      )
    )
  ) else (
    G (xc h a0 = 8) <|
    G (xc h (xR h a0 3) = 16) <|
    G (gx i7 (xz h (xR h a0 3))) <|
    LT (pI h (xR h a0 3) i7.toNatClampNeg (nI 2)) fun h14 =>
    some ((), h14)
  )
theorem jX8_takeWord_B123 (x : CT) (a0 : Nat) (a1 : Nat) (a2 : Nat) (a6 : Nat) (i7 : Int32) (i8 : Int32) (is0 : Int32) (is1 : Int32) (h : AH) : J x qX8_takeWord ZV 123 [(0, rv (zx x) a0), (1, rv (zx x) a1), (2, rv (zx x) a2), (6, rv (zx x) a6), (7, .int i7), (8, .int i8)] [.int is0, .int is1] h (X8_takeWord_B123 a0 a1 a2 a6 i7 i8 is0 is1 h) := by
  unfold X8_takeWord_B123
  refine J_iadd dX8_takeWord_123 ?_
  refine J_LTi (fun v1 => ?_)
  refine J_istore dX8_takeWord_124 (by decide) (SD.a (lvr := [(0, rv (zx x) a0), (1, rv (zx x) a1), (2, rv (zx x) a2), (6, rv (zx x) a6), (7, .int i7), (8, .int i8)]) [0, 1, 2, 3, 4, 5] rfl rfl) ?_
  refine J_aload_n 3 dX8_takeWord_126 rv_is rfl ?_
  refine J_G (fun g2 => ?_)
  refine J_getR kc_3 0 (by decide) rfl rfl kw_2_112 dX8_takeWord_127 g2 ?_
  refine J_iload 5 dX8_takeWord_130 rfl ?_
  refine J_G (fun g3 => ?_)
  refine J_G (fun g4 => ?_)
  refine J_lald dX8_takeWord_132 g3 g4 ?_
  refine J_lconst (v := lN 1) dX8_takeWord_133 rfl ?_
  refine J_land dX8_takeWord_134 ?_
  refine J_lconst (v := lN 0) dX8_takeWord_135 rfl ?_
  refine J_lcmp dX8_takeWord_136 ?_
  refine J_if_eq (tgt := 151) dX8_takeWord_137 rfl ?_ ?_
  · refine J_iload 0 dX8_takeWord_151 rfl ?_
    refine J_aload_n 2 dX8_takeWord_153 rv_is rfl ?_
    refine J_G (fun g5 => ?_)
    refine J_getI kc_10 1 (by decide) rfl rfl kw_2_18 dX8_takeWord_154 g5 ?_
    refine J_icmp_gt (tgt := 174) dX8_takeWord_157 rfl ?_ ?_
    · exact J_sub [1, 5] rfl (jX8_takeWord_B174 x a0 i7 h)
    · refine J_aload_n 1 dX8_takeWord_160 rv_is rfl ?_
      refine J_aload 4 dX8_takeWord_161 rv_is rfl ?_
      refine J_G (fun g6 => ?_)
      refine J_getI kc_1 7 (by decide) rfl rfl kw_1_73 dX8_takeWord_163 g6 ?_
      refine J_iload 0 dX8_takeWord_166 rfl ?_
      refine J_G (fun g7 => ?_)
      refine J.callV (n := 2) (As := [.int (xI h a6 7), .int v1]) kc_8 (ctX8_isDown (lx x) (wx x) a0 (xI h a6 7) v1 h) kw_4_211 kw_4_208 kw_4_209 kw_4_210 kw_1_10 (by decide +kernel) rfl (by decide) (Nat.zero_le _) rfl dX8_takeWord_168 g7 (fun v9 h8 => ?_)
      show J x _ _ 171 _ [.int v9] h8 _
      refine J_if_eq (tgt := 185) dX8_takeWord_171 rfl ?_ ?_
      · refine J_aload_n 1 dX8_takeWord_185 rv_is rfl ?_
        refine J_G (fun g10 => ?_)
        refine J_getR kc_8 3 (by decide) rfl rfl kw_2_144 dX8_takeWord_186 g10 ?_
        refine J_iload 5 dX8_takeWord_189 rfl ?_
        refine J_iload 6 dX8_takeWord_191 rfl ?_
        refine J_if_eq (tgt := 200) dX8_takeWord_193 rfl ?_ ?_
        · refine J_iconst (v := nI 1) dX8_takeWord_200 rfl ?_
          exact J_sub [] rfl (jX8_takeWord_B201 x (nI 1) i7 (xR h8 a0 3) h8)
        · refine J_iconst (v := nI 3) dX8_takeWord_196 rfl ?_
          refine J_goto (tgt := 201) dX8_takeWord_197 rfl ?_
          exact J_sub [] rfl (jX8_takeWord_B201 x (nI 3) i7 (xR h8 a0 3) h8)
      · exact J_sub [1, 5] rfl (jX8_takeWord_B174 x a0 i7 h8)
  · refine J_aload_n 1 dX8_takeWord_140 rv_is rfl ?_
    refine J_G (fun g11 => ?_)
    refine J_getR kc_8 3 (by decide) rfl rfl kw_2_144 dX8_takeWord_141 g11 ?_
    refine J_iload 5 dX8_takeWord_144 rfl ?_
    refine J_iconst (v := nI 2) dX8_takeWord_146 rfl ?_
    refine J_G (fun g12 => ?_)
    refine J_G (fun g13 => ?_)
    refine J_iast dX8_takeWord_147 g12 g13 ?_
    refine J_LTh (fun h14 => ?_)
    refine J_goto (tgt := 202) dX8_takeWord_148 rfl ?_
    exact J_vret dX8_takeWord_202
def X8_takeWord_B107 (a0 : Nat) (a1 : Nat) (a2 : Nat) (i5 : Int32) (a6 : Nat) (i7 : Int32) (is0 : Int32) (h : AH) : Option (Unit × AH) :=
  if is0 = 0 then (
    X8_takeWord_B123 a0 a1 a2 a6 i7 is0 (nI 0) (i5 + (nI 1)) h
  ) else (
    X8_takeWord_B123 a0 a1 a2 a6 i7 is0 (nI 2) (i5 + (nI 1)) h
  )
theorem jX8_takeWord_B107 (x : CT) (a0 : Nat) (a1 : Nat) (a2 : Nat) (i5 : Int32) (a6 : Nat) (i7 : Int32) (is0 : Int32) (h : AH) : J x qX8_takeWord ZV 107 [(0, rv (zx x) a0), (1, rv (zx x) a1), (2, rv (zx x) a2), (5, .int i5), (6, rv (zx x) a6), (7, .int i7)] [.int is0] h (X8_takeWord_B107 a0 a1 a2 i5 a6 i7 is0 h) := by
  unfold X8_takeWord_B107
  refine J_istore dX8_takeWord_107 (by decide) (SD.a (lvr := [(0, rv (zx x) a0), (1, rv (zx x) a1), (2, rv (zx x) a2), (5, .int i5), (6, rv (zx x) a6), (7, .int i7)]) [0, 1, 2, 3, 4, 5] rfl rfl) ?_
  refine J_iload 4 dX8_takeWord_109 rfl ?_
  refine J_iconst (v := nI 1) dX8_takeWord_111 rfl ?_
  refine J_iadd dX8_takeWord_112 ?_
  refine J_iload 0 dX8_takeWord_113 rfl ?_
  refine J_if_eq (tgt := 122) dX8_takeWord_115 rfl ?_ ?_
  · refine J_iconst (v := nI 0) dX8_takeWord_122 rfl ?_
    exact J_sub [1, 2, 3, 5, 6, 0] rfl (jX8_takeWord_B123 x a0 a1 a2 a6 i7 is0 (nI 0) (i5 + (nI 1)) h)
  · refine J_iconst (v := nI 2) dX8_takeWord_118 rfl ?_
    refine J_goto (tgt := 123) dX8_takeWord_119 rfl ?_
    exact J_sub [1, 2, 3, 5, 6, 0] rfl (jX8_takeWord_B123 x a0 a1 a2 a6 i7 is0 (nI 2) (i5 + (nI 1)) h)
def X8_takeWord_B88 (a0 : Nat) (a1 : Nat) (a2 : Nat) (i5 : Int32) (a6 : Nat) (i7 : Int32) (h : AH) : Option (Unit × AH) :=
  G (xc h a2 = 3) <|
  G (xc h (xR h a2 1) = 17) <|
  G (gx i7 (xz h (xR h a2 1))) <|
  if (lg_cmp ((xL h (xR h a2 1) i7.toNatClampNeg) &&& (lN 1)) (lN 0)) = 0 then (
    X8_takeWord_B107 a0 a1 a2 i5 a6 i7 (nI 0) h
  ) else (
    X8_takeWord_B107 a0 a1 a2 i5 a6 i7 (nI 1) h
  )
theorem jX8_takeWord_B88 (x : CT) (a0 : Nat) (a1 : Nat) (a2 : Nat) (i5 : Int32) (a6 : Nat) (i7 : Int32) (h : AH) : J x qX8_takeWord ZV 88 [(0, rv (zx x) a0), (1, rv (zx x) a1), (2, rv (zx x) a2), (5, .int i5), (6, rv (zx x) a6), (7, .int i7)] [] h (X8_takeWord_B88 a0 a1 a2 i5 a6 i7 h) := by
  unfold X8_takeWord_B88
  refine J_aload_n 2 dX8_takeWord_88 rv_is rfl ?_
  refine J_G (fun g1 => ?_)
  refine J_getR kc_3 1 (by decide) rfl rfl kw_2_116 dX8_takeWord_89 g1 ?_
  refine J_iload 5 dX8_takeWord_92 rfl ?_
  refine J_G (fun g2 => ?_)
  refine J_G (fun g3 => ?_)
  refine J_lald dX8_takeWord_94 g2 g3 ?_
  refine J_lconst (v := lN 1) dX8_takeWord_95 rfl ?_
  refine J_land dX8_takeWord_96 ?_
  refine J_lconst (v := lN 0) dX8_takeWord_97 rfl ?_
  refine J_lcmp dX8_takeWord_98 ?_
  refine J_if_eq (tgt := 106) dX8_takeWord_99 rfl ?_ ?_
  · refine J_iconst (v := nI 0) dX8_takeWord_106 rfl ?_
    exact (jX8_takeWord_B107 x a0 a1 a2 i5 a6 i7 (nI 0) h)
  · refine J_iconst (v := nI 1) dX8_takeWord_102 rfl ?_
    refine J_goto (tgt := 107) dX8_takeWord_103 rfl ?_
    exact (jX8_takeWord_B107 x a0 a1 a2 i5 a6 i7 (nI 1) h)
def X8_takeWord_f (a0 : Nat) (a1 : Nat) (a2 : Nat) (a3 : Nat) (i4 : Int32) (i5 : Int32) (h : AH) : Option (Unit × AH) :=
  G (xc h a1 = 10) <|
  G (xc h (xR h a1 0) = 0) <|
  G (xc h (xR h (xR h a1 0) 11) = 20) <|
  G (gx i4 (xz h (xR h (xR h a1 0) 11))) <|
  LT (xR h (xR h (xR h a1 0) 11) i4.toNatClampNeg) fun r5 =>
  LT ((i4 * (nI 7)) + i5) fun v6 =>
  G (xc h a3 = 2) <|
  G (xc h (xR h a3 4) = 17) <|
  G (gx v6 (xz h (xR h a3 4))) <|
  if (lg_cmp ((xL h (xR h a3 4) v6.toNatClampNeg) &&& (lN 1)) (lN 0)) = 0 then (
    G (xc h a0 = 8) <|
    G (xc h (xR h a0 3) = 16) <|
    G (gx v6 (xz h (xR h a0 3))) <|
    LT (pI h (xR h a0 3) v6.toNatClampNeg (nI 0)) fun h30 =>
    some ((), h30)
  ) else (
    G (xc h a0 = 8) <|
    G (xc h r5 = 1) <|
    BN (X11_cell_f i5 (xI h r5 6) h) fun v13 h12 =>
    G (xc h12 (xR h a0 0) = 16) <|
    G (gx v13 (xz h12 (xR h a0 0))) <|
    G (xc h12 a1 = 10) <|
    BN (X10_isBare_f a1 i4 h12) fun v18 h17 =>
    G (xc h17 r5 = 1) <|
    BN (X1_holdsAmong_f r5 (xI h12 (xR h a0 0) v13.toNatClampNeg) v18 h17) fun v21 h20 =>
    if v21 = 0 then (
      G (xc h20 a0 = 8) <|
      G (xc h20 (xR h20 a0 2) = 16) <|
      G (gx i4 (xz h20 (xR h20 a0 2))) <|
      G (gx i4 (xz h20 (xR h20 a0 2))) <|
      LT (pI h20 (xR h20 a0 2) i4.toNatClampNeg ((xI h20 (xR h20 a0 2) i4.toNatClampNeg) ||| ((nI 1) <<< (i5 &&& 31)))) fun h26 =>
      X8_takeWord_B88 a0 a1 a2 i5 r5 v6 h26
    ) else (
      X8_takeWord_B88 a0 a1 a2 i5 r5 v6 h20
    )
  )
theorem jX8_takeWord (x : CT) (a0 : Nat) (a1 : Nat) (a2 : Nat) (a3 : Nat) (i4 : Int32) (i5 : Int32) (h : AH) : J x qX8_takeWord ZV 0 [(0, rv (zx x) a0), (1, rv (zx x) a1), (2, rv (zx x) a2), (3, rv (zx x) a3), (4, .int i4), (5, .int i5)] [] h (X8_takeWord_f a0 a1 a2 a3 i4 i5 h) := by
  unfold X8_takeWord_f
  refine J_aload_n 1 dX8_takeWord_0 rv_is rfl ?_
  refine J_G (fun g1 => ?_)
  refine J_getR kc_10 0 (by decide) rfl rfl kw_2_14 dX8_takeWord_1 g1 ?_
  refine J_G (fun g2 => ?_)
  refine J_getR kc_0 11 (by decide) rfl rfl kw_1_146 dX8_takeWord_4 g2 ?_
  refine J_iload 4 dX8_takeWord_7 rfl ?_
  refine J_G (fun g3 => ?_)
  refine J_G (fun g4 => ?_)
  refine J_aald (t := 20) (t0 := 4) (Cn := RX1) (by decide) (by decide) (fun _ => rfl) dX8_takeWord_9 g3 g4 ?_
  refine J_LTr (fun r5 => ?_)
  refine J_astore rv_is dX8_takeWord_10 (by decide) (SD.a (lvr := [(0, rv (zx x) a0), (1, rv (zx x) a1), (2, rv (zx x) a2), (3, rv (zx x) a3), (4, .int i4), (5, .int i5)]) [0, 1, 2, 3, 4, 5] rfl rfl) ?_
  refine J_iload 5 dX8_takeWord_12 rfl ?_
  refine J_bipush (v := nI 7) dX8_takeWord_14 rfl ?_
  refine J_imul dX8_takeWord_16 ?_
  refine J_iload 6 dX8_takeWord_17 rfl ?_
  refine J_iadd dX8_takeWord_19 ?_
  refine J_LTi (fun v6 => ?_)
  refine J_istore dX8_takeWord_20 (by decide) (SD.c (lvr := [(6, rv (zx x) r5), (0, rv (zx x) a0), (1, rv (zx x) a1), (2, rv (zx x) a2), (3, rv (zx x) a3), (4, .int i4), (5, .int i5)]) [0, 1, 2, 3, 4, 5, 6] rfl rfl 0 rfl rfl rv_cat) ?_
  refine J_aload_n 5 dX8_takeWord_22 rv_is rfl ?_
  refine J_G (fun g7 => ?_)
  refine J_getR kc_2 4 (by decide) rfl rfl kw_2_180 dX8_takeWord_23 g7 ?_
  refine J_iload 0 dX8_takeWord_26 rfl ?_
  refine J_G (fun g8 => ?_)
  refine J_G (fun g9 => ?_)
  refine J_lald dX8_takeWord_28 g8 g9 ?_
  refine J_lconst (v := lN 1) dX8_takeWord_29 rfl ?_
  refine J_land dX8_takeWord_30 ?_
  refine J_lconst (v := lN 0) dX8_takeWord_31 rfl ?_
  refine J_lcmp dX8_takeWord_32 ?_
  refine J_if_ne (tgt := 45) dX8_takeWord_33 rfl ?_ ?_
  · refine J_aload 1 dX8_takeWord_45 rv_is rfl ?_
    refine J_aload_n 2 dX8_takeWord_47 rv_is rfl ?_
    refine J_G (fun g10 => ?_)
    refine J_getR kc_8 0 (by decide) rfl rfl kw_2_139 dX8_takeWord_48 g10 ?_
    refine J_iload 7 dX8_takeWord_51 rfl ?_
    refine J_aload 1 dX8_takeWord_53 rv_is rfl ?_
    refine J_G (fun g11 => ?_)
    refine J_getI kc_1 6 (by decide) rfl rfl kw_1_68 dX8_takeWord_55 g11 ?_
    refine J.callSN (n := 2) (As := [.int i5, .int (xI h r5 6)]) (ctX11_cell (lx x) (wx x) i5 (xI h r5 6) h) kw_4_149 kn_6 kw_4_148 kw_1_1 (by decide +kernel) rfl (by decide) (by simp [rv_cat, cat_I, cat_L, cat_S]) rfl dX8_takeWord_58 (fun v13 h12 => ?_)
    show J x _ _ 61 _ [.int v13, rv (zx x) (xR h a0 0), rv (zx x) r5] h12 _
    refine J_G (fun g14 => ?_)
    refine J_G (fun g15 => ?_)
    refine J_iald dX8_takeWord_61 g14 g15 ?_
    refine J_aload_n 3 dX8_takeWord_62 rv_is rfl ?_
    refine J_iload 6 dX8_takeWord_63 rfl ?_
    refine J_G (fun g16 => ?_)
    refine J.callV (n := 1) (As := [.int i4]) kc_10 (ctX10_isBare (lx x) (wx x) a1 i4 h12) kw_4_177 kw_4_203 kw_4_175 kw_4_176 kw_1_5 (by decide +kernel) rfl (by decide) (by simp [rv_cat, cat_I, cat_L, cat_S]) rfl dX8_takeWord_65 g16 (fun v18 h17 => ?_)
    show J x _ _ 68 _ [.int v18, .int (xI h12 (xR h a0 0) v13.toNatClampNeg), rv (zx x) r5] h17 _
    refine J_G (fun g19 => ?_)
    refine J.callV (n := 2) (As := [.int (xI h12 (xR h a0 0) v13.toNatClampNeg), .int v18]) kc_1 (ctX1_holdsAmong (lx x) (wx x) r5 (xI h12 (xR h a0 0) v13.toNatClampNeg) v18 h17) kw_4_207 kw_4_204 kw_4_205 kw_4_206 kw_1_3 (by decide +kernel) rfl (by decide) (Nat.zero_le _) rfl dX8_takeWord_68 g19 (fun v21 h20 => ?_)
    show J x _ _ 71 _ [.int v21] h20 _
    refine J_if_ne (tgt := 88) dX8_takeWord_71 rfl ?_ ?_
    · exact J_sub [2, 3, 4, 7, 1, 0] rfl (jX8_takeWord_B88 x a0 a1 a2 i5 r5 v6 h20)
    · refine J_aload_n 2 dX8_takeWord_74 rv_is rfl ?_
      refine J_G (fun g22 => ?_)
      refine J_getR kc_8 2 (by decide) rfl rfl kw_2_143 dX8_takeWord_75 g22 ?_
      refine J_iload 6 dX8_takeWord_78 rfl ?_
      refine J_dup2 dX8_takeWord_80 rfl rv_cat ?_
      refine J_G (fun g23 => ?_)
      refine J_G (fun g24 => ?_)
      refine J_iald dX8_takeWord_81 g23 g24 ?_
      refine J_iconst (v := nI 1) dX8_takeWord_82 rfl ?_
      refine J_iload 7 dX8_takeWord_83 rfl ?_
      refine J_ishl dX8_takeWord_85 ?_
      refine J_ior dX8_takeWord_86 ?_
      refine J_G (fun g25 => ?_)
      refine J_iast dX8_takeWord_87 g23 g25 ?_
      refine J_LTh (fun h26 => ?_)
      exact J_sub [2, 3, 4, 7, 1, 0] rfl (jX8_takeWord_B88 x a0 a1 a2 i5 r5 v6 h26)
  · refine J_aload_n 2 dX8_takeWord_36 rv_is rfl ?_
    refine J_G (fun g27 => ?_)
    refine J_getR kc_8 3 (by decide) rfl rfl kw_2_144 dX8_takeWord_37 g27 ?_
    refine J_iload 0 dX8_takeWord_40 rfl ?_
    refine J_iconst (v := nI 0) dX8_takeWord_42 rfl ?_
    refine J_G (fun g28 => ?_)
    refine J_G (fun g29 => ?_)
    refine J_iast dX8_takeWord_43 g28 g29 ?_
    refine J_LTh (fun h30 => ?_)
    exact J_vret dX8_takeWord_44
theorem ctX8_takeWord (l : Launch) (w : WT) (a0 : Nat) (a1 : Nat) (a2 : Nat) (a3 : Nat) (i4 : Int32) (i5 : Int32) (h : AH) : CM l w yX8_takeWord cX8_takeWord 10 none 1 22 KV [rv (w.1) a0, rv (w.1) a1, rv (w.1) a2, rv (w.1) a3, .int i4, .int i5] h (X8_takeWord_f a0 a1 a2 a3 i4 i5 h) :=
  CM.of (by decide +kernel) (by simp [lg_sl, rv_cat, cat_I, cat_L, cat_S]) (lv := [(0, rv (w.1) a0), (1, rv (w.1) a1), (2, rv (w.1) a2), (3, rv (w.1) a3), (4, .int i4), (5, .int i5)]) (by simp [lv_args, rv_cat, cat_I, cat_L, cat_S]) (fun x hx => by subst hx; exact jX8_takeWord x a0 a1 a2 a3 i4 i5 h)
-- FallTrials$Trace.isThere(III)Z
abbrev qX8_isThere : MT := (cX8_isThere, RX8, "isThere", (some .boolean), 1, 21, 4)
def X8_isThere_f (a0 : Nat) (i1 : Int32) (i2 : Int32) (i3 : Int32) (h : AH) : Option (Int32 × AH) :=
  G (xc h a0 = 8) <|
  BN (X11_cell_f i3 i2 h) fun v3 h2 =>
  G (xc h2 (xR h a0 0) = 16) <|
  G (gx v3 (xz h2 (xR h a0 0))) <|
  if (((xI h2 (xR h a0 0) v3.toNatClampNeg) >>> (i1 &&& 31)) &&& (nI 1)) = 0 then (
    some (nI 0, h2)
  ) else (
    some (nI 1, h2)
  )
theorem jX8_isThere (x : CT) (a0 : Nat) (i1 : Int32) (i2 : Int32) (i3 : Int32) (h : AH) : J x qX8_isThere ZI 0 [(0, rv (zx x) a0), (1, .int i1), (2, .int i2), (3, .int i3)] [] h (X8_isThere_f a0 i1 i2 i3 h) := by
  unfold X8_isThere_f
  refine J_aload_n 0 dX8_isThere_0 rv_is rfl ?_
  refine J_G (fun g1 => ?_)
  refine J_getR kc_8 0 (by decide) rfl rfl kw_2_139 dX8_isThere_1 g1 ?_
  refine J_iload_n 3 dX8_isThere_4 rfl ?_
  refine J_iload_n 2 dX8_isThere_5 rfl ?_
  refine J.callSN (n := 2) (As := [.int i3, .int i2]) (ctX11_cell (lx x) (wx x) i3 i2 h) kw_4_149 kn_6 kw_4_148 kw_1_1 (by decide +kernel) rfl (by decide) (by simp [rv_cat, cat_I, cat_L, cat_S]) rfl dX8_isThere_6 (fun v3 h2 => ?_)
  show J x _ _ 9 _ [.int v3, rv (zx x) (xR h a0 0)] h2 _
  refine J_G (fun g4 => ?_)
  refine J_G (fun g5 => ?_)
  refine J_iald dX8_isThere_9 g4 g5 ?_
  refine J_iload_n 1 dX8_isThere_10 rfl ?_
  refine J_ishr dX8_isThere_11 ?_
  refine J_iconst (v := nI 1) dX8_isThere_12 rfl ?_
  refine J_iand dX8_isThere_13 ?_
  refine J_if_eq (tgt := 21) dX8_isThere_14 rfl ?_ ?_
  · refine J_iconst (v := nI 0) dX8_isThere_21 rfl ?_
    exact J_zret dX8_isThere_22 (by decide)
  · refine J_iconst (v := nI 1) dX8_isThere_17 rfl ?_
    refine J_goto (tgt := 22) dX8_isThere_18 rfl ?_
    exact J_zret dX8_isThere_22 (by decide)
theorem ctX8_isThere (l : Launch) (w : WT) (a0 : Nat) (i1 : Int32) (i2 : Int32) (i3 : Int32) (h : AH) : CM l w yX8_isThere cX8_isThere 4 (some .boolean) 1 21 KI [rv (w.1) a0, .int i1, .int i2, .int i3] h (X8_isThere_f a0 i1 i2 i3 h) :=
  CM.of (by decide +kernel) (by simp [lg_sl, rv_cat, cat_I, cat_L, cat_S]) (lv := [(0, rv (w.1) a0), (1, .int i1), (2, .int i2), (3, .int i3)]) (by simp [lv_args, rv_cat, cat_I, cat_L, cat_S]) (fun x hx => by subst hx; exact jX8_isThere x a0 i1 i2 i3 h)
