-- FallTrials$Course.addNow(II)V
abbrev qX2_addNow : MT := (cX2_addNow, RX2, "addNow", none, 1, 30, 10)
def X2_addNow_B142 (k15 : (Nat → Int32 → Int32 → Int32 → Int32 → Int32 → AH → Option (Unit × AH))) (a0 : Nat) (i1 : Int32) (i2 : Int32) (i3 : Int32) (i4 : Int32) (i5 : Int32) (h : AH) : Option (Unit × AH) :=
  LT (i5 + nI 1) fun v1 =>
  k15 a0 i1 i2 i3 i4 v1 h
theorem jX2_addNow_B142 (x : CT) (k15 : (Nat → Int32 → Int32 → Int32 → Int32 → Int32 → AH → Option (Unit × AH))) (hk15 : ∀ (a0 : Nat) (i1 : Int32) (i2 : Int32) (i3 : Int32) (i4 : Int32) (i5 : Int32) (h : AH), J x qX2_addNow ZV 15 [(0, rv (zx x) a0), (1, .int i1), (2, .int i2), (3, .int i3), (4, .int i4), (5, .int i5)] [] h (k15 a0 i1 i2 i3 i4 i5 h)) (a0 : Nat) (i1 : Int32) (i2 : Int32) (i3 : Int32) (i4 : Int32) (i5 : Int32) (h : AH) : J x qX2_addNow ZV 142 [(0, rv (zx x) a0), (1, .int i1), (2, .int i2), (3, .int i3), (4, .int i4), (5, .int i5)] [] h (X2_addNow_B142 k15 a0 i1 i2 i3 i4 i5 h) := by
  unfold X2_addNow_B142
  refine J_iincL (u := i5 + nI 1) 5 dX2_addNow_142 rfl rfl (by decide) (SD.a (lvr := [(0, rv (zx x) a0), (1, .int i1), (2, .int i2), (3, .int i3), (4, .int i4)]) [0, 1, 2, 3, 4] rfl rfl) (fun v1 => ?_)
  refine J_goto (tgt := 15) dX2_addNow_145 rfl ?_
  exact J_sub [1, 2, 3, 4, 5, 0] rfl (hk15 a0 i1 i2 i3 i4 v1 h)
def X2_addNow_B136 (k15 : (Nat → Int32 → Int32 → Int32 → Int32 → Int32 → AH → Option (Unit × AH))) (k33 : (Nat → Int32 → Int32 → Int32 → Int32 → Int32 → Int32 → AH → Option (Unit × AH))) (a0 : Nat) (i1 : Int32) (i2 : Int32) (i3 : Int32) (i4 : Int32) (i5 : Int32) (i6 : Int32) (h : AH) : Option (Unit × AH) :=
  LT (i6 + nI 1) fun v1 =>
  k33 a0 i1 i2 i3 i4 i5 v1 h
theorem jX2_addNow_B136 (x : CT) (k15 : (Nat → Int32 → Int32 → Int32 → Int32 → Int32 → AH → Option (Unit × AH))) (hk15 : ∀ (a0 : Nat) (i1 : Int32) (i2 : Int32) (i3 : Int32) (i4 : Int32) (i5 : Int32) (h : AH), J x qX2_addNow ZV 15 [(0, rv (zx x) a0), (1, .int i1), (2, .int i2), (3, .int i3), (4, .int i4), (5, .int i5)] [] h (k15 a0 i1 i2 i3 i4 i5 h)) (k33 : (Nat → Int32 → Int32 → Int32 → Int32 → Int32 → Int32 → AH → Option (Unit × AH))) (hk33 : ∀ (a0 : Nat) (i1 : Int32) (i2 : Int32) (i3 : Int32) (i4 : Int32) (i5 : Int32) (i6 : Int32) (h : AH), J x qX2_addNow ZV 33 [(0, rv (zx x) a0), (1, .int i1), (2, .int i2), (3, .int i3), (4, .int i4), (5, .int i5), (6, .int i6)] [] h (k33 a0 i1 i2 i3 i4 i5 i6 h)) (a0 : Nat) (i1 : Int32) (i2 : Int32) (i3 : Int32) (i4 : Int32) (i5 : Int32) (i6 : Int32) (h : AH) : J x qX2_addNow ZV 136 [(0, rv (zx x) a0), (1, .int i1), (2, .int i2), (3, .int i3), (4, .int i4), (5, .int i5), (6, .int i6)] [] h (X2_addNow_B136 k15 k33 a0 i1 i2 i3 i4 i5 i6 h) := by
  unfold X2_addNow_B136
  refine J_iincL (u := i6 + nI 1) 6 dX2_addNow_136 rfl rfl (by decide) (SD.a (lvr := [(0, rv (zx x) a0), (1, .int i1), (2, .int i2), (3, .int i3), (4, .int i4), (5, .int i5)]) [0, 1, 2, 3, 4, 5] rfl rfl) (fun v1 => ?_)
  refine J_goto (tgt := 33) dX2_addNow_139 rfl ?_
  exact J_sub [1, 2, 3, 4, 5, 6, 0] rfl (hk33 a0 i1 i2 i3 i4 i5 v1 h)
def X2_addNow_B133 (k15 : (Nat → Int32 → Int32 → Int32 → Int32 → Int32 → AH → Option (Unit × AH))) (k33 : (Nat → Int32 → Int32 → Int32 → Int32 → Int32 → Int32 → AH → Option (Unit × AH))) (a0 : Nat) (i1 : Int32) (i2 : Int32) (i3 : Int32) (i5 : Int32) (i6 : Int32) (is0 : Int32) (is1 : Int32) (h : AH) : Option (Unit × AH) :=
  LT (is1 ||| is0) fun v1 =>
  X2_addNow_B136 k15 k33 a0 i1 i2 i3 v1 i5 i6 h
theorem jX2_addNow_B133 (x : CT) (k15 : (Nat → Int32 → Int32 → Int32 → Int32 → Int32 → AH → Option (Unit × AH))) (hk15 : ∀ (a0 : Nat) (i1 : Int32) (i2 : Int32) (i3 : Int32) (i4 : Int32) (i5 : Int32) (h : AH), J x qX2_addNow ZV 15 [(0, rv (zx x) a0), (1, .int i1), (2, .int i2), (3, .int i3), (4, .int i4), (5, .int i5)] [] h (k15 a0 i1 i2 i3 i4 i5 h)) (k33 : (Nat → Int32 → Int32 → Int32 → Int32 → Int32 → Int32 → AH → Option (Unit × AH))) (hk33 : ∀ (a0 : Nat) (i1 : Int32) (i2 : Int32) (i3 : Int32) (i4 : Int32) (i5 : Int32) (i6 : Int32) (h : AH), J x qX2_addNow ZV 33 [(0, rv (zx x) a0), (1, .int i1), (2, .int i2), (3, .int i3), (4, .int i4), (5, .int i5), (6, .int i6)] [] h (k33 a0 i1 i2 i3 i4 i5 i6 h)) (a0 : Nat) (i1 : Int32) (i2 : Int32) (i3 : Int32) (i5 : Int32) (i6 : Int32) (is0 : Int32) (is1 : Int32) (h : AH) : J x qX2_addNow ZV 133 [(0, rv (zx x) a0), (1, .int i1), (2, .int i2), (3, .int i3), (5, .int i5), (6, .int i6)] [.int is0, .int is1] h (X2_addNow_B133 k15 k33 a0 i1 i2 i3 i5 i6 is0 is1 h) := by
  unfold X2_addNow_B133
  refine J_ior dX2_addNow_133 ?_
  refine J_LTi (fun v1 => ?_)
  refine J_istore dX2_addNow_134 (by decide) (SD.a (lvr := [(0, rv (zx x) a0), (1, .int i1), (2, .int i2), (3, .int i3), (5, .int i5), (6, .int i6)]) [0, 1, 2, 3, 4, 5] rfl rfl) ?_
  exact J_sub [1, 2, 3, 4, 0, 5, 6] rfl (jX2_addNow_B136 x k15 hk15 k33 hk33 a0 i1 i2 i3 v1 i5 i6 h)
def X2_addNow_B33 (k15 : (Nat → Int32 → Int32 → Int32 → Int32 → Int32 → AH → Option (Unit × AH))) : Nat → Nat → Int32 → Int32 → Int32 → Int32 → Int32 → Int32 → AH → Option (Unit × AH)
  | 0, _, _, _, _, _, _, _, _ => none
  | n + 1, a0, i1, i2, i3, i4, i5, i6, h =>
    G (xc h a0 = 2) <|
    G (xc h (xR h a0 8) = 0) <|
    if (xI h (xR h a0 8) 3) ≤ i6 then (
      X2_addNow_B142 k15 a0 i1 i2 i3 i4 i5 h
    ) else (
      G (xc h a0 = 2) <|
      G (xc h (xR h a0 8) = 0) <|
      G (xc h (xR h (xR h a0 8) 10) = 20) <|
      G (gx i6 (xz h (xR h (xR h a0 8) 10))) <|
      LT (xR h (xR h (xR h a0 8) 10) i6.toNatClampNeg) fun r7 =>
      G (xc h r7 = 1) <|
      if (xI h r7 8) = 0 then (
        X2_addNow_B136 k15 (X2_addNow_B33 k15 n) a0 i1 i2 i3 i4 i5 i6 h
      ) else (
        G (xc h r7 = 1) <|
        BN (X1_isFor_f r7 i1 h) fun v11 h10 =>
        if v11 = 0 then (
          X2_addNow_B136 k15 (X2_addNow_B33 k15 n) a0 i1 i2 i3 i4 i5 i6 h10
        ) else (
          G (xc h10 a0 = 2) <|
          BN (X2_held_f a0 r7 i1 i2 (nI 0) h10) fun w14 h13 =>
          G (xc h13 a0 = 2) <|
          G (xc h13 r7 = 1) <|
          G (xc h13 (xR h13 a0 0) = 17) <|
          G (gx (i3 + (xI h13 r7 3)) (xz h13 (xR h13 a0 0))) <|
          LT (w14 &&& ((xL h13 (xR h13 a0 0) (i3 + (xI h13 r7 3)).toNatClampNeg) ^^^ (-1))) fun w19 =>
          G (gx (i3 + (xI h13 r7 3)) (xz h13 (xR h13 a0 0))) <|
          G (gx (i3 + (xI h13 r7 3)) (xz h13 (xR h13 a0 0))) <|
          LT (pL h13 (xR h13 a0 0) (i3 + (xI h13 r7 3)).toNatClampNeg ((xL h13 (xR h13 a0 0) (i3 + (xI h13 r7 3)).toNatClampNeg) ||| w19)) fun h22 =>
          if (lg_cmp w19 (lN 0)) = 0 then (
            X2_addNow_B133 k15 (X2_addNow_B33 k15 n) a0 i1 i2 i3 i5 i6 (nI 0) i4 h22
          ) else (
            X2_addNow_B133 k15 (X2_addNow_B33 k15 n) a0 i1 i2 i3 i5 i6 (nI 1) i4 h22
          )
        )
      )
    )
theorem jX2_addNow_B33 (x : CT) (k15 : (Nat → Int32 → Int32 → Int32 → Int32 → Int32 → AH → Option (Unit × AH))) (hk15 : ∀ (a0 : Nat) (i1 : Int32) (i2 : Int32) (i3 : Int32) (i4 : Int32) (i5 : Int32) (h : AH), J x qX2_addNow ZV 15 [(0, rv (zx x) a0), (1, .int i1), (2, .int i2), (3, .int i3), (4, .int i4), (5, .int i5)] [] h (k15 a0 i1 i2 i3 i4 i5 h)) : ∀ (n : Nat) (a0 : Nat) (i1 : Int32) (i2 : Int32) (i3 : Int32) (i4 : Int32) (i5 : Int32) (i6 : Int32) (h : AH), J x qX2_addNow ZV 33 [(0, rv (zx x) a0), (1, .int i1), (2, .int i2), (3, .int i3), (4, .int i4), (5, .int i5), (6, .int i6)] [] h (X2_addNow_B33 k15 n a0 i1 i2 i3 i4 i5 i6 h) := by
  intro n
  induction n with
  | zero => intro a0 i1 i2 i3 i4 i5 i6 h; exact J_none
  | succ n ih =>
    intro a0 i1 i2 i3 i4 i5 i6 h
    unfold X2_addNow_B33
    refine J_iload 6 dX2_addNow_33 rfl ?_
    refine J_aload_n 0 dX2_addNow_35 rv_is rfl ?_
    refine J_G (fun g1 => ?_)
    refine J_getR kc_2 8 (by decide) rfl rfl kw_2_187 dX2_addNow_36 g1 ?_
    refine J_G (fun g2 => ?_)
    refine J_getI kc_0 3 (by decide) rfl rfl kw_1_120 dX2_addNow_39 g2 ?_
    refine J_icmp_ge (tgt := 142) dX2_addNow_42 rfl ?_ ?_
    · exact J_sub [0, 1, 2, 3, 4, 5] rfl (jX2_addNow_B142 x k15 hk15 a0 i1 i2 i3 i4 i5 h)
    · refine J_aload_n 0 dX2_addNow_45 rv_is rfl ?_
      refine J_G (fun g3 => ?_)
      refine J_getR kc_2 8 (by decide) rfl rfl kw_2_187 dX2_addNow_46 g3 ?_
      refine J_G (fun g4 => ?_)
      refine J_getR kc_0 10 (by decide) rfl rfl kw_1_141 dX2_addNow_49 g4 ?_
      refine J_iload 6 dX2_addNow_52 rfl ?_
      refine J_G (fun g5 => ?_)
      refine J_G (fun g6 => ?_)
      refine J_aald (t := 20) (t0 := 4) (Cn := RX1) (by decide) (by decide) (fun _ => rfl) dX2_addNow_54 g5 g6 ?_
      refine J_LTr (fun r7 => ?_)
      refine J_astore rv_is dX2_addNow_55 (by decide) (SD.a (lvr := [(0, rv (zx x) a0), (1, .int i1), (2, .int i2), (3, .int i3), (4, .int i4), (5, .int i5), (6, .int i6)]) [0, 1, 2, 3, 4, 5, 6] rfl rfl) ?_
      refine J_aload 0 dX2_addNow_57 rv_is rfl ?_
      refine J_G (fun g8 => ?_)
      refine J_getI kc_1 8 (by decide) rfl rfl kw_1_78 dX2_addNow_59 g8 ?_
      refine J_if_eq (tgt := 136) dX2_addNow_62 rfl ?_ ?_
      · exact J_sub [1, 2, 3, 4, 5, 6, 7] rfl (jX2_addNow_B136 x k15 hk15 (X2_addNow_B33 k15 n) ih a0 i1 i2 i3 i4 i5 i6 h)
      · refine J_aload 0 dX2_addNow_65 rv_is rfl ?_
        refine J_iload_n 2 dX2_addNow_67 rfl ?_
        refine J_G (fun g9 => ?_)
        refine J.callV (n := 1) (As := [.int i1]) kc_1 (ctX1_isFor (lx x) (wx x) r7 i1 h) kw_4_161 kw_4_158 kw_4_159 kw_4_160 kw_1_3 (by decide +kernel) rfl (by decide) (Nat.zero_le _) rfl dX2_addNow_68 g9 (fun v11 h10 => ?_)
        show J x _ _ 71 _ [.int v11] h10 _
        refine J_if_eq (tgt := 136) dX2_addNow_71 rfl ?_ ?_
        · exact J_sub [1, 2, 3, 4, 5, 6, 7] rfl (jX2_addNow_B136 x k15 hk15 (X2_addNow_B33 k15 n) ih a0 i1 i2 i3 i4 i5 i6 h10)
        · refine J_aload_n 1 dX2_addNow_74 rv_is rfl ?_
          refine J_aload 0 dX2_addNow_75 rv_is rfl ?_
          refine J_iload_n 2 dX2_addNow_77 rfl ?_
          refine J_iload_n 3 dX2_addNow_78 rfl ?_
          refine J_iconst (v := nI 0) dX2_addNow_79 rfl ?_
          refine J_G (fun g12 => ?_)
          refine J.callV (n := 4) (As := [rv (zx x) r7, .int i1, .int i2, .int (nI 0)]) kc_2 (ctX2_held (lx x) (wx x) a0 r7 i1 i2 (nI 0) h10) kw_4_165 kw_4_162 kw_4_163 kw_4_164 kw_1_11 (by decide +kernel) rfl (by decide) (Nat.zero_le _) rfl dX2_addNow_80 g12 (fun w14 h13 => ?_)
          show J x _ _ 83 _ [.long w14] h13 _
          refine J_aload_n 1 dX2_addNow_83 rv_is rfl ?_
          refine J_G (fun g15 => ?_)
          refine J_getR kc_2 0 (by decide) rfl rfl kw_2_174 dX2_addNow_84 g15 ?_
          refine J_iload_n 4 dX2_addNow_87 rfl ?_
          refine J_aload 0 dX2_addNow_88 rv_is rfl ?_
          refine J_G (fun g16 => ?_)
          refine J_getI kc_1 3 (by decide) rfl rfl kw_1_60 dX2_addNow_90 g16 ?_
          refine J_iadd dX2_addNow_93 ?_
          refine J_G (fun g17 => ?_)
          refine J_G (fun g18 => ?_)
          refine J_lald dX2_addNow_94 g17 g18 ?_
          refine J_ldc2 (v := (-1)) dX2_addNow_95 kw_4_146 ?_
          refine J_lxor dX2_addNow_98 ?_
          refine J_land dX2_addNow_99 ?_
          refine J_LTl (fun w19 => ?_)
          refine J_lstore dX2_addNow_100 (by decide) (SD.c (lvr := [(7, rv (zx x) r7), (0, rv (zx x) a0), (1, .int i1), (2, .int i2), (3, .int i3), (4, .int i4), (5, .int i5), (6, .int i6)]) [0, 1, 2, 3, 4, 5, 6, 7] rfl rfl 0 rfl rfl rv_cat) rfl ?_
          refine J_aload_n 2 dX2_addNow_102 rv_is rfl ?_
          refine J_getR kc_2 0 (by decide) rfl rfl kw_2_174 dX2_addNow_103 g15 ?_
          refine J_iload_n 5 dX2_addNow_106 rfl ?_
          refine J_aload 1 dX2_addNow_107 rv_is rfl ?_
          refine J_getI kc_1 3 (by decide) rfl rfl kw_1_60 dX2_addNow_109 g16 ?_
          refine J_iadd dX2_addNow_112 ?_
          refine J_dup2 dX2_addNow_113 rfl rv_cat ?_
          refine J_G (fun g20 => ?_)
          refine J_lald dX2_addNow_114 g17 g20 ?_
          refine J_lload 0 dX2_addNow_115 rfl ?_
          refine J_lor dX2_addNow_117 ?_
          refine J_G (fun g21 => ?_)
          refine J_last dX2_addNow_118 g17 g21 ?_
          refine J_LTh (fun h22 => ?_)
          refine J_iload 6 dX2_addNow_119 rfl ?_
          refine J_lload 0 dX2_addNow_121 rfl ?_
          refine J_lconst (v := lN 0) dX2_addNow_123 rfl ?_
          refine J_lcmp dX2_addNow_124 ?_
          refine J_if_eq (tgt := 132) dX2_addNow_125 rfl ?_ ?_
          · refine J_iconst (v := nI 0) dX2_addNow_132 rfl ?_
            exact J_sub [2, 3, 4, 5, 7, 8] rfl (jX2_addNow_B133 x k15 hk15 (X2_addNow_B33 k15 n) ih a0 i1 i2 i3 i5 i6 (nI 0) i4 h22)
          · refine J_iconst (v := nI 1) dX2_addNow_128 rfl ?_
            refine J_goto (tgt := 133) dX2_addNow_129 rfl ?_
            exact J_sub [2, 3, 4, 5, 7, 8] rfl (jX2_addNow_B133 x k15 hk15 (X2_addNow_B33 k15 n) ih a0 i1 i2 i3 i5 i6 (nI 1) i4 h22)
def X2_addNow_B15 : Nat → Nat → Int32 → Int32 → Int32 → Int32 → Int32 → AH → Option (Unit × AH)
  | 0, _, _, _, _, _, _, _ => none
  | n + 1, a0, i1, i2, i3, i4, i5, h =>
    if (nI 10) ≤ i5 then (
      some ((), h)
    ) else (
      if i4 = 0 then (
        some ((), h)
      ) else (
        X2_addNow_B33 (X2_addNow_B15 n) FU a0 i1 i2 i3 (nI 0) i5 (nI 0) h
      )
    )
theorem jX2_addNow_B15 (x : CT) : ∀ (n : Nat) (a0 : Nat) (i1 : Int32) (i2 : Int32) (i3 : Int32) (i4 : Int32) (i5 : Int32) (h : AH), J x qX2_addNow ZV 15 [(0, rv (zx x) a0), (1, .int i1), (2, .int i2), (3, .int i3), (4, .int i4), (5, .int i5)] [] h (X2_addNow_B15 n a0 i1 i2 i3 i4 i5 h) := by
  intro n
  induction n with
  | zero => intro a0 i1 i2 i3 i4 i5 h; exact J_none
  | succ n ih =>
    intro a0 i1 i2 i3 i4 i5 h
    unfold X2_addNow_B15
    refine J_iload 5 dX2_addNow_15 rfl ?_
    refine J_bipush (v := nI 10) dX2_addNow_17 rfl ?_
    refine J_icmp_ge (tgt := 148) dX2_addNow_19 rfl ?_ ?_
    · exact J_vret dX2_addNow_148
    · refine J_iload 4 dX2_addNow_22 rfl ?_
      refine J_if_eq (tgt := 148) dX2_addNow_24 rfl ?_ ?_
      · exact J_vret dX2_addNow_148
      · refine J_iconst (v := nI 0) dX2_addNow_27 rfl ?_
        refine J_istore dX2_addNow_28 (by decide) (SD.a (lvr := [(0, rv (zx x) a0), (1, .int i1), (2, .int i2), (3, .int i3), (5, .int i5)]) [0, 1, 2, 3, 5] rfl rfl) ?_
        refine J_iconst (v := nI 0) dX2_addNow_30 rfl ?_
        refine J_istore dX2_addNow_31 (by decide) (SD.a (lvr := [(4, .int (nI 0)), (0, rv (zx x) a0), (1, .int i1), (2, .int i2), (3, .int i3), (5, .int i5)]) [0, 1, 2, 3, 4, 5] rfl rfl) ?_
        exact J_sub [2, 3, 4, 5, 1, 6, 0] rfl (jX2_addNow_B33 x (X2_addNow_B15 n) ih FU a0 i1 i2 i3 (nI 0) i5 (nI 0) h)
def X2_addNow_f (a0 : Nat) (i1 : Int32) (i2 : Int32) (h : AH) : Option (Unit × AH) :=
  BN (X11_cell_f i2 i1 h) fun v2 h1 =>
  LT (v2 * (nI 10)) fun v3 =>
  X2_addNow_B15 FU a0 i1 i2 v3 (nI 1) (nI 0) h1
theorem jX2_addNow (x : CT) (a0 : Nat) (i1 : Int32) (i2 : Int32) (h : AH) : J x qX2_addNow ZV 0 [(0, rv (zx x) a0), (1, .int i1), (2, .int i2)] [] h (X2_addNow_f a0 i1 i2 h) := by
  unfold X2_addNow_f
  refine J_iload_n 2 dX2_addNow_0 rfl ?_
  refine J_iload_n 1 dX2_addNow_1 rfl ?_
  refine J.callSN (n := 2) (As := [.int i2, .int i1]) (ctX11_cell (lx x) (wx x) i2 i1 h) kw_4_149 kn_5 kw_4_148 kw_1_1 (by decide +kernel) rfl (by decide) (Nat.zero_le _) rfl dX2_addNow_2 (fun v2 h1 => ?_)
  show J x _ _ 5 _ [.int v2] h1 _
  refine J_bipush (v := nI 10) dX2_addNow_5 rfl ?_
  refine J_imul dX2_addNow_7 ?_
  refine J_LTi (fun v3 => ?_)
  refine J_istore_n dX2_addNow_8 (by decide) (SD.a (lvr := [(0, rv (zx x) a0), (1, .int i1), (2, .int i2)]) [0, 1, 2] rfl rfl) ?_
  refine J_iconst (v := nI 1) dX2_addNow_9 rfl ?_
  refine J_istore dX2_addNow_10 (by decide) (SD.a (lvr := [(3, .int v3), (0, rv (zx x) a0), (1, .int i1), (2, .int i2)]) [0, 1, 2, 3] rfl rfl) ?_
  refine J_iconst (v := nI 0) dX2_addNow_12 rfl ?_
  refine J_istore dX2_addNow_13 (by decide) (SD.a (lvr := [(4, .int (nI 1)), (3, .int v3), (0, rv (zx x) a0), (1, .int i1), (2, .int i2)]) [0, 1, 2, 3, 4] rfl rfl) ?_
  exact J_sub [3, 4, 5, 2, 1, 0] rfl (jX2_addNow_B15 x FU a0 i1 i2 v3 (nI 1) (nI 0) h1)
theorem ctX2_addNow (l : Launch) (w : WT) (a0 : Nat) (i1 : Int32) (i2 : Int32) (h : AH) : CM l w yX2_addNow cX2_addNow 10 none 1 30 KV [rv (w.1) a0, .int i1, .int i2] h (X2_addNow_f a0 i1 i2 h) :=
  CM.of (by decide +kernel) (by simp [lg_sl, rv_cat, cat_I, cat_L, cat_S]) (lv := [(0, rv (w.1) a0), (1, .int i1), (2, .int i2)]) (by simp [lv_args, rv_cat, cat_I, cat_L, cat_S]) (fun x hx => by subst hx; exact jX2_addNow x a0 i1 i2 h)
-- FallTrials$Course.arrive(LFallTrials$Clause;IJ)V
abbrev qX2_arrive : MT := (cX2_arrive, RX2, "arrive", none, 1, 21, 5)
def X2_arrive_f (a0 : Nat) (a1 : Nat) (i2 : Int32) (l3 : Int64) (h : AH) : Option (Unit × AH) :=
  G (xc h a0 = 2) <|
  G (xc h (xR h a0 7) = 10) <|
  if (xI h (xR h a0 7) 1) < i2 then (
    some ((), h)
  ) else (
    G (xc h a0 = 2) <|
    G (xc h a1 = 1) <|
    BN (X11_cell_f i2 (xI h a1 7) h) fun v6 h5 =>
    G (xc h5 a1 = 1) <|
    G (xc h5 (xR h a0 1) = 17) <|
    G (gx ((v6 * (nI 10)) + (xI h5 a1 3)) (xz h5 (xR h a0 1))) <|
    G (gx ((v6 * (nI 10)) + (xI h5 a1 3)) (xz h5 (xR h a0 1))) <|
    LT (pL h5 (xR h a0 1) ((v6 * (nI 10)) + (xI h5 a1 3)).toNatClampNeg ((xL h5 (xR h a0 1) ((v6 * (nI 10)) + (xI h5 a1 3)).toNatClampNeg) ||| l3)) fun h11 =>
    some ((), h11)
  )
theorem jX2_arrive (x : CT) (a0 : Nat) (a1 : Nat) (i2 : Int32) (l3 : Int64) (h : AH) : J x qX2_arrive ZV 0 [(0, rv (zx x) a0), (1, rv (zx x) a1), (2, .int i2), (3, .long l3)] [] h (X2_arrive_f a0 a1 i2 l3 h) := by
  unfold X2_arrive_f
  refine J_iload_n 2 dX2_arrive_0 rfl ?_
  refine J_aload_n 0 dX2_arrive_1 rv_is rfl ?_
  refine J_G (fun g1 => ?_)
  refine J_getR kc_2 7 (by decide) rfl rfl kw_2_186 dX2_arrive_2 g1 ?_
  refine J_G (fun g2 => ?_)
  refine J_getI kc_10 1 (by decide) rfl rfl kw_2_20 dX2_arrive_5 g2 ?_
  refine J_icmp_gt (tgt := 36) dX2_arrive_8 rfl ?_ ?_
  · exact J_vret dX2_arrive_36
  · refine J_aload_n 0 dX2_arrive_11 rv_is rfl ?_
    refine J_G (fun g3 => ?_)
    refine J_getR kc_2 1 (by decide) rfl rfl kw_2_176 dX2_arrive_12 g3 ?_
    refine J_iload_n 2 dX2_arrive_15 rfl ?_
    refine J_aload_n 1 dX2_arrive_16 rv_is rfl ?_
    refine J_G (fun g4 => ?_)
    refine J_getI kc_1 7 (by decide) rfl rfl kw_1_75 dX2_arrive_17 g4 ?_
    refine J.callSN (n := 2) (As := [.int i2, .int (xI h a1 7)]) (ctX11_cell (lx x) (wx x) i2 (xI h a1 7) h) kw_4_149 kn_5 kw_4_148 kw_1_1 (by decide +kernel) rfl (by decide) (by simp [rv_cat, cat_I, cat_L, cat_S]) rfl dX2_arrive_20 (fun v6 h5 => ?_)
    show J x _ _ 23 _ [.int v6, rv (zx x) (xR h a0 1)] h5 _
    refine J_bipush (v := nI 10) dX2_arrive_23 rfl ?_
    refine J_imul dX2_arrive_25 ?_
    refine J_aload_n 1 dX2_arrive_26 rv_is rfl ?_
    refine J_G (fun g7 => ?_)
    refine J_getI kc_1 3 (by decide) rfl rfl kw_1_60 dX2_arrive_27 g7 ?_
    refine J_iadd dX2_arrive_30 ?_
    refine J_dup2 dX2_arrive_31 rfl rv_cat ?_
    refine J_G (fun g8 => ?_)
    refine J_G (fun g9 => ?_)
    refine J_lald dX2_arrive_32 g8 g9 ?_
    refine J_lload_n 3 dX2_arrive_33 rfl ?_
    refine J_lor dX2_arrive_34 ?_
    refine J_G (fun g10 => ?_)
    refine J_last dX2_arrive_35 g8 g10 ?_
    refine J_LTh (fun h11 => ?_)
    exact J_vret dX2_arrive_36
theorem ctX2_arrive (l : Launch) (w : WT) (a0 : Nat) (a1 : Nat) (i2 : Int32) (l3 : Int64) (h : AH) : CM l w yX2_arrive cX2_arrive 5 none 1 21 KV [rv (w.1) a0, rv (w.1) a1, .int i2, .long l3] h (X2_arrive_f a0 a1 i2 l3 h) :=
  CM.of (by decide +kernel) (by simp [lg_sl, rv_cat, cat_I, cat_L, cat_S]) (lv := [(0, rv (w.1) a0), (1, rv (w.1) a1), (2, .int i2), (3, .long l3)]) (by simp [lv_args, rv_cat, cat_I, cat_L, cat_S]) (fun x hx => by subst hx; exact jX2_arrive x a0 a1 i2 l3 h)
-- FallTrials$Course.judge()V
abbrev qX2_judge : MT := (cX2_judge, RX2, "judge", none, 1, 21, 7)
def X2_judge_B106 (a0 : Nat) (l2 : Int64) (l4 : Int64) (h : AH) : Option (Unit × AH) :=
  G (xc h a0 = 2) <|
  LT (pL h a0 5 (l2 &&& (l4 ^^^ (-1)))) fun h2 =>
  G (xc h2 a0 = 2) <|
  LT (pL h2 a0 6 (l2 &&& l4)) fun h4 =>
  some ((), h4)
theorem jX2_judge_B106 (x : CT) (a0 : Nat) (l2 : Int64) (l4 : Int64) (h : AH) : J x qX2_judge ZV 106 [(0, rv (zx x) a0), (2, .long l2), (4, .long l4)] [] h (X2_judge_B106 a0 l2 l4 h) := by
  unfold X2_judge_B106
  refine J_aload_n 0 dX2_judge_106 rv_is rfl ?_
  refine J_lload_n 1 dX2_judge_107 rfl ?_
  refine J_lload 2 dX2_judge_108 rfl ?_
  refine J_ldc2 (v := (-1)) dX2_judge_110 kw_4_146 ?_
  refine J_lxor dX2_judge_113 ?_
  refine J_land dX2_judge_114 ?_
  refine J_G (fun g1 => ?_)
  refine J_putL kc_2 5 (by decide) rfl rfl rfl (Or.inl rfl) kw_2_183 dX2_judge_115 g1 ?_
  refine J_LTh (fun h2 => ?_)
  refine J_aload_n 0 dX2_judge_118 rv_is rfl ?_
  refine J_lload_n 1 dX2_judge_119 rfl ?_
  refine J_lload 2 dX2_judge_120 rfl ?_
  refine J_land dX2_judge_122 ?_
  refine J_G (fun g3 => ?_)
  refine J_putL kc_2 6 (by decide) rfl rfl rfl (Or.inl rfl) kw_2_185 dX2_judge_123 g3 ?_
  refine J_LTh (fun h4 => ?_)
  exact J_vret dX2_judge_126
def X2_judge_B66 : Nat → Nat → Int32 → Int64 → Int64 → Int32 → AH → Option (Unit × AH)
  | 0, _, _, _, _, _, _ => none
  | n + 1, a0, i1, l2, l4, i6, h =>
    G (xc h a0 = 2) <|
    G (xc h (xR h a0 8) = 0) <|
    if (xI h (xR h a0 8) 15) ≤ i6 then (
      X2_judge_B106 a0 l2 l4 h
    ) else (
      G (xc h a0 = 2) <|
      G (xc h (xR h a0 8) = 0) <|
      G (xc h (xR h (xR h a0 8) 13) = 16) <|
      G (gx i6 (xz h (xR h (xR h a0 8) 13))) <|
      G (xc h (xR h a0 0) = 17) <|
      G (gx (i1 + (xI h (xR h (xR h a0 8) 13) i6.toNatClampNeg)) (xz h (xR h a0 0))) <|
      LT (l4 ||| (xL h (xR h a0 0) (i1 + (xI h (xR h (xR h a0 8) 13) i6.toNatClampNeg)).toNatClampNeg)) fun w9 =>
      LT (i6 + nI 1) fun v10 =>
      X2_judge_B66 n a0 i1 l2 w9 v10 h
    )
theorem jX2_judge_B66 (x : CT) : ∀ (n : Nat) (a0 : Nat) (i1 : Int32) (l2 : Int64) (l4 : Int64) (i6 : Int32) (h : AH), J x qX2_judge ZV 66 [(0, rv (zx x) a0), (1, .int i1), (2, .long l2), (4, .long l4), (6, .int i6)] [] h (X2_judge_B66 n a0 i1 l2 l4 i6 h) := by
  intro n
  induction n with
  | zero => intro a0 i1 l2 l4 i6 h; exact J_none
  | succ n ih =>
    intro a0 i1 l2 l4 i6 h
    unfold X2_judge_B66
    refine J_iload 4 dX2_judge_66 rfl ?_
    refine J_aload_n 0 dX2_judge_68 rv_is rfl ?_
    refine J_G (fun g1 => ?_)
    refine J_getR kc_2 8 (by decide) rfl rfl kw_2_187 dX2_judge_69 g1 ?_
    refine J_G (fun g2 => ?_)
    refine J_getI kc_0 15 (by decide) rfl rfl kw_1_163 dX2_judge_72 g2 ?_
    refine J_icmp_ge (tgt := 106) dX2_judge_75 rfl ?_ ?_
    · exact J_sub [0, 2, 3] rfl (jX2_judge_B106 x a0 l2 l4 h)
    · refine J_lload 3 dX2_judge_78 rfl ?_
      refine J_aload_n 0 dX2_judge_80 rv_is rfl ?_
      refine J_G (fun g3 => ?_)
      refine J_getR kc_2 0 (by decide) rfl rfl kw_2_174 dX2_judge_81 g3 ?_
      refine J_iload_n 1 dX2_judge_84 rfl ?_
      refine J_aload_n 0 dX2_judge_85 rv_is rfl ?_
      refine J_getR kc_2 8 (by decide) rfl rfl kw_2_187 dX2_judge_86 g3 ?_
      refine J_G (fun g4 => ?_)
      refine J_getR kc_0 13 (by decide) rfl rfl kw_1_155 dX2_judge_89 g4 ?_
      refine J_iload 4 dX2_judge_92 rfl ?_
      refine J_G (fun g5 => ?_)
      refine J_G (fun g6 => ?_)
      refine J_iald dX2_judge_94 g5 g6 ?_
      refine J_iadd dX2_judge_95 ?_
      refine J_G (fun g7 => ?_)
      refine J_G (fun g8 => ?_)
      refine J_lald dX2_judge_96 g7 g8 ?_
      refine J_lor dX2_judge_97 ?_
      refine J_LTl (fun w9 => ?_)
      refine J_lstore dX2_judge_98 (by decide) (SD.a (lvr := [(0, rv (zx x) a0), (1, .int i1), (2, .long l2), (6, .int i6)]) [0, 1, 2, 4] rfl rfl) rfl ?_
      refine J_iincL (u := i6 + nI 1) 4 dX2_judge_100 rfl rfl (by decide) (SD.a (lvr := [(4, .long w9), (0, rv (zx x) a0), (1, .int i1), (2, .long l2)]) [0, 1, 2, 3] rfl rfl) (fun v10 => ?_)
      refine J_goto (tgt := 66) dX2_judge_103 rfl ?_
      exact J_sub [2, 3, 4, 1, 0] rfl (ih a0 i1 l2 w9 v10 h)
def X2_judge_B60 (a0 : Nat) (i1 : Int32) (l2 : Int64) (h : AH) : Option (Unit × AH) :=
  LT (lN 0) fun w1 =>
  X2_judge_B66 FU a0 i1 l2 w1 (nI 0) h
theorem jX2_judge_B60 (x : CT) (a0 : Nat) (i1 : Int32) (l2 : Int64) (h : AH) : J x qX2_judge ZV 60 [(0, rv (zx x) a0), (1, .int i1), (2, .long l2)] [] h (X2_judge_B60 a0 i1 l2 h) := by
  unfold X2_judge_B60
  refine J_lconst (v := lN 0) dX2_judge_60 rfl ?_
  refine J_LTl (fun w1 => ?_)
  refine J_lstore dX2_judge_61 (by decide) (SD.a (lvr := [(0, rv (zx x) a0), (1, .int i1), (2, .long l2)]) [0, 1, 2] rfl rfl) rfl ?_
  refine J_iconst (v := nI 0) dX2_judge_63 rfl ?_
  refine J_istore dX2_judge_64 (by decide) (SD.a (lvr := [(4, .long w1), (0, rv (zx x) a0), (1, .int i1), (2, .long l2)]) [0, 1, 2, 3] rfl rfl) ?_
  exact J_sub [2, 3, 4, 1, 0] rfl (jX2_judge_B66 x FU a0 i1 l2 w1 (nI 0) h)
def X2_judge_B22 : Nat → Nat → Int32 → Int64 → Int32 → AH → Option (Unit × AH)
  | 0, _, _, _, _, _ => none
  | n + 1, a0, i1, l2, i4, h =>
    G (xc h a0 = 2) <|
    G (xc h (xR h a0 8) = 0) <|
    if (xI h (xR h a0 8) 14) ≤ i4 then (
      X2_judge_B60 a0 i1 l2 h
    ) else (
      G (xc h a0 = 2) <|
      G (xc h (xR h a0 8) = 0) <|
      G (xc h (xR h (xR h a0 8) 12) = 16) <|
      G (gx i4 (xz h (xR h (xR h a0 8) 12))) <|
      G (xc h (xR h a0 0) = 17) <|
      G (gx (i1 + (xI h (xR h (xR h a0 8) 12) i4.toNatClampNeg)) (xz h (xR h a0 0))) <|
      LT (l2 &&& (xL h (xR h a0 0) (i1 + (xI h (xR h (xR h a0 8) 12) i4.toNatClampNeg)).toNatClampNeg)) fun w9 =>
      LT (i4 + nI 1) fun v10 =>
      X2_judge_B22 n a0 i1 w9 v10 h
    )
theorem jX2_judge_B22 (x : CT) : ∀ (n : Nat) (a0 : Nat) (i1 : Int32) (l2 : Int64) (i4 : Int32) (h : AH), J x qX2_judge ZV 22 [(0, rv (zx x) a0), (1, .int i1), (2, .long l2), (4, .int i4)] [] h (X2_judge_B22 n a0 i1 l2 i4 h) := by
  intro n
  induction n with
  | zero => intro a0 i1 l2 i4 h; exact J_none
  | succ n ih =>
    intro a0 i1 l2 i4 h
    unfold X2_judge_B22
    refine J_iload 3 dX2_judge_22 rfl ?_
    refine J_aload_n 0 dX2_judge_24 rv_is rfl ?_
    refine J_G (fun g1 => ?_)
    refine J_getR kc_2 8 (by decide) rfl rfl kw_2_187 dX2_judge_25 g1 ?_
    refine J_G (fun g2 => ?_)
    refine J_getI kc_0 14 (by decide) rfl rfl kw_1_159 dX2_judge_28 g2 ?_
    refine J_icmp_ge (tgt := 60) dX2_judge_31 rfl ?_ ?_
    · exact J_sub [0, 1, 2] rfl (jX2_judge_B60 x a0 i1 l2 h)
    · refine J_lload_n 2 dX2_judge_34 rfl ?_
      refine J_aload_n 0 dX2_judge_35 rv_is rfl ?_
      refine J_G (fun g3 => ?_)
      refine J_getR kc_2 0 (by decide) rfl rfl kw_2_174 dX2_judge_36 g3 ?_
      refine J_iload_n 1 dX2_judge_39 rfl ?_
      refine J_aload_n 0 dX2_judge_40 rv_is rfl ?_
      refine J_getR kc_2 8 (by decide) rfl rfl kw_2_187 dX2_judge_41 g3 ?_
      refine J_G (fun g4 => ?_)
      refine J_getR kc_0 12 (by decide) rfl rfl kw_1_151 dX2_judge_44 g4 ?_
      refine J_iload 3 dX2_judge_47 rfl ?_
      refine J_G (fun g5 => ?_)
      refine J_G (fun g6 => ?_)
      refine J_iald dX2_judge_49 g5 g6 ?_
      refine J_iadd dX2_judge_50 ?_
      refine J_G (fun g7 => ?_)
      refine J_G (fun g8 => ?_)
      refine J_lald dX2_judge_51 g7 g8 ?_
      refine J_land dX2_judge_52 ?_
      refine J_LTl (fun w9 => ?_)
      refine J_lstore_n dX2_judge_53 (by decide) (SD.a (lvr := [(0, rv (zx x) a0), (1, .int i1), (4, .int i4)]) [0, 1, 3] rfl rfl) rfl ?_
      refine J_iincL (u := i4 + nI 1) 3 dX2_judge_54 rfl rfl (by decide) (SD.a (lvr := [(2, .long w9), (0, rv (zx x) a0), (1, .int i1)]) [0, 1, 2] rfl rfl) (fun v10 => ?_)
      refine J_goto (tgt := 22) dX2_judge_57 rfl ?_
      exact J_sub [2, 3, 1, 0] rfl (ih a0 i1 w9 v10 h)
def X2_judge_f (a0 : Nat) (h : AH) : Option (Unit × AH) :=
  G (xc h a0 = 2) <|
  G (xc h (xR h a0 7) = 10) <|
  BN (X11_cell_f (xI h (xR h a0 7) 1) (nI 0) h) fun v4 h3 =>
  LT (v4 * (nI 10)) fun v5 =>
  X2_judge_B22 FU a0 v5 (-1) (nI 0) h3
theorem jX2_judge (x : CT) (a0 : Nat) (h : AH) : J x qX2_judge ZV 0 [(0, rv (zx x) a0)] [] h (X2_judge_f a0 h) := by
  unfold X2_judge_f
  refine J_aload_n 0 dX2_judge_0 rv_is rfl ?_
  refine J_G (fun g1 => ?_)
  refine J_getR kc_2 7 (by decide) rfl rfl kw_2_186 dX2_judge_1 g1 ?_
  refine J_G (fun g2 => ?_)
  refine J_getI kc_10 1 (by decide) rfl rfl kw_2_20 dX2_judge_4 g2 ?_
  refine J_iconst (v := nI 0) dX2_judge_7 rfl ?_
  refine J.callSN (n := 2) (As := [.int (xI h (xR h a0 7) 1), .int (nI 0)]) (ctX11_cell (lx x) (wx x) (xI h (xR h a0 7) 1) (nI 0) h) kw_4_149 kn_5 kw_4_148 kw_1_1 (by decide +kernel) rfl (by decide) (Nat.zero_le _) rfl dX2_judge_8 (fun v4 h3 => ?_)
  show J x _ _ 11 _ [.int v4] h3 _
  refine J_bipush (v := nI 10) dX2_judge_11 rfl ?_
  refine J_imul dX2_judge_13 ?_
  refine J_LTi (fun v5 => ?_)
  refine J_istore_n dX2_judge_14 (by decide) (SD.c (lvr := [(0, rv (zx x) a0)]) [0] rfl rfl 0 rfl rfl rv_cat) ?_
  refine J_ldc2 (v := (-1)) dX2_judge_15 kw_4_146 ?_
  refine J_lstore_n dX2_judge_18 (by decide) (SD.a (lvr := [(1, .int v5), (0, rv (zx x) a0)]) [0, 1] rfl rfl) rfl ?_
  refine J_iconst (v := nI 0) dX2_judge_19 rfl ?_
  refine J_istore dX2_judge_20 (by decide) (SD.a (lvr := [(2, .long ((-1))), (1, .int v5), (0, rv (zx x) a0)]) [0, 1, 2] rfl rfl) ?_
  exact J_sub [3, 2, 1, 0] rfl (jX2_judge_B22 x FU a0 v5 (-1) (nI 0) h3)
theorem ctX2_judge (l : Launch) (w : WT) (a0 : Nat) (h : AH) : CM l w yX2_judge cX2_judge 7 none 1 21 KV [rv (w.1) a0] h (X2_judge_f a0 h) :=
  CM.of (by decide +kernel) (by simp [lg_sl, rv_cat, cat_I, cat_L, cat_S]) (lv := [(0, rv (w.1) a0)]) (by simp [lv_args, rv_cat, cat_I, cat_L, cat_S]) (fun x hx => by subst hx; exact jX2_judge x a0 h)
-- FallTrials$FallLanes.wipe()V
abbrev qX3_wipe : MT := (cX3_wipe, RX3, "wipe", none, 1, 24, 1)
def X3_wipe_f (a0 : Nat) (h : AH) : Option (Unit × AH) :=
  G (xc h a0 = 3) <|
  BN (J7_fill_d0a16_f (xR h a0 0) (lN 0) h) fun _ h2 =>
  G (xc h2 a0 = 3) <|
  BN (J7_fill_d0a16_f (xR h2 a0 1) (lN 0) h2) fun _ h4 =>
  G (xc h4 a0 = 3) <|
  BN (J7_fill_d0a16_f (xR h4 a0 2) (lN 0) h4) fun _ h6 =>
  some ((), h6)
theorem jX3_wipe (x : CT) (a0 : Nat) (h : AH) : J x qX3_wipe ZV 0 [(0, rv (zx x) a0)] [] h (X3_wipe_f a0 h) := by
  unfold X3_wipe_f
  refine J_aload_n 0 dX3_wipe_0 rv_is rfl ?_
  refine J_G (fun g1 => ?_)
  refine J_getR kc_3 0 (by decide) rfl rfl kw_2_111 dX3_wipe_1 g1 ?_
  refine J_lconst (v := lN 0) dX3_wipe_4 rfl ?_
  refine J.callS (n := 2) (As := [rv (zx x) (xR h a0 0), .long (lN 0)]) (ctJ7_fill_d0a16 (lx x) (wx x) (xR h a0 0) (lN 0) h) kw_4_127 kw_4_125 kw_4_126 kw_1_25 (by decide +kernel) rfl (by decide) (Nat.zero_le _) rfl dX3_wipe_5 (fun _ h2 => ?_)
  show J x _ _ 8 _ [] h2 _
  refine J_aload_n 0 dX3_wipe_8 rv_is rfl ?_
  refine J_G (fun g3 => ?_)
  refine J_getR kc_3 1 (by decide) rfl rfl kw_2_115 dX3_wipe_9 g3 ?_
  refine J_lconst (v := lN 0) dX3_wipe_12 rfl ?_
  refine J.callS (n := 2) (As := [rv (zx x) (xR h2 a0 1), .long (lN 0)]) (ctJ7_fill_d0a16 (lx x) (wx x) (xR h2 a0 1) (lN 0) h2) kw_4_127 kw_4_125 kw_4_126 kw_1_25 (by decide +kernel) rfl (by decide) (Nat.zero_le _) rfl dX3_wipe_13 (fun _ h4 => ?_)
  show J x _ _ 16 _ [] h4 _
  refine J_aload_n 0 dX3_wipe_16 rv_is rfl ?_
  refine J_G (fun g5 => ?_)
  refine J_getR kc_3 2 (by decide) rfl rfl kw_2_119 dX3_wipe_17 g5 ?_
  refine J_lconst (v := lN 0) dX3_wipe_20 rfl ?_
  refine J.callS (n := 2) (As := [rv (zx x) (xR h4 a0 2), .long (lN 0)]) (ctJ7_fill_d0a16 (lx x) (wx x) (xR h4 a0 2) (lN 0) h4) kw_4_127 kw_4_125 kw_4_126 kw_1_25 (by decide +kernel) rfl (by decide) (Nat.zero_le _) rfl dX3_wipe_21 (fun _ h6 => ?_)
  show J x _ _ 24 _ [] h6 _
  exact J_vret dX3_wipe_24
theorem ctX3_wipe (l : Launch) (w : WT) (a0 : Nat) (h : AH) : CM l w yX3_wipe cX3_wipe 1 none 1 24 KV [rv (w.1) a0] h (X3_wipe_f a0 h) :=
  CM.of (by decide +kernel) (by simp [lg_sl, rv_cat, cat_I, cat_L, cat_S]) (lv := [(0, rv (w.1) a0)]) (by simp [lv_args, rv_cat, cat_I, cat_L, cat_S]) (fun x hx => by subst hx; exact jX3_wipe x a0 h)
-- FallTrials$FallLanes.put(IJ)V
abbrev qX3_put : MT := (cX3_put, RX3, "put", none, 1, 26, 6)
def X3_put_f (a0 : Nat) (i1 : Int32) (l2 : Int64) (h : AH) : Option (Unit × AH) :=
  LT ((i1 / (nI 10)) - (i1 / (nI 10)) / (nI 10) * (nI 10)) fun v1 =>
  LT (i1 - i1 / (nI 10) * (nI 10)) fun v2 =>
  if (i1 / (nI 100)) = nI 0 then (
    G (xc h a0 = 3) <|
    G (xc h (xR h a0 0) = 17) <|
    G (gx ((v1 * (nI 7)) + v2) (xz h (xR h a0 0))) <|
    G (gx ((v1 * (nI 7)) + v2) (xz h (xR h a0 0))) <|
    LT (pL h (xR h a0 0) ((v1 * (nI 7)) + v2).toNatClampNeg ((xL h (xR h a0 0) ((v1 * (nI 7)) + v2).toNatClampNeg) ||| l2)) fun h7 =>
    some ((), h7)
  ) else (
  if (i1 / (nI 100)) = nI 1 then (
    G (xc h a0 = 3) <|
    BN (X3_putDown_f a0 v1 v2 (nI 6) l2 h) fun _ h10 =>
    some ((), h10)
  ) else (
  if (i1 / (nI 100)) = nI 2 then (
    G (xc h a0 = 3) <|
    BN (X3_putDown_f a0 v1 v2 (v2 + (nI 1)) l2 h) fun _ h13 =>
    some ((), h13)
  ) else (
  if (i1 / (nI 100)) = nI 3 then (
    G (xc h a0 = 3) <|
    G (xc h (xR h a0 1) = 17) <|
    G (gx ((v1 * (nI 7)) + v2) (xz h (xR h a0 1))) <|
    G (gx ((v1 * (nI 7)) + v2) (xz h (xR h a0 1))) <|
    LT (pL h (xR h a0 1) ((v1 * (nI 7)) + v2).toNatClampNeg ((xL h (xR h a0 1) ((v1 * (nI 7)) + v2).toNatClampNeg) ||| l2)) fun h19 =>
    some ((), h19)
  ) else (
  some ((), h)
  ))))
theorem jX3_put (x : CT) (a0 : Nat) (i1 : Int32) (l2 : Int64) (h : AH) : J x qX3_put ZV 0 [(0, rv (zx x) a0), (1, .int i1), (2, .long l2)] [] h (X3_put_f a0 i1 l2 h) := by
  unfold X3_put_f
  refine J_iload_n 1 dX3_put_0 rfl ?_
  refine J_bipush (v := nI 10) dX3_put_1 rfl ?_
  refine J_idiv dX3_put_3 (by decide) ?_
  refine J_bipush (v := nI 10) dX3_put_4 rfl ?_
  refine J_irem dX3_put_6 (by decide) ?_
  refine J_LTi (fun v1 => ?_)
  refine J_istore dX3_put_7 (by decide) (SD.a (lvr := [(0, rv (zx x) a0), (1, .int i1), (2, .long l2)]) [0, 1, 2] rfl rfl) ?_
  refine J_iload_n 2 dX3_put_9 rfl ?_
  refine J_bipush (v := nI 10) dX3_put_10 rfl ?_
  refine J_irem dX3_put_12 (by decide) ?_
  refine J_LTi (fun v2 => ?_)
  refine J_istore dX3_put_13 (by decide) (SD.a (lvr := [(4, .int v1), (0, rv (zx x) a0), (1, .int i1), (2, .long l2)]) [0, 1, 2, 3] rfl rfl) ?_
  refine J_iload_n 3 dX3_put_15 rfl ?_
  refine J_bipush (v := nI 100) dX3_put_16 rfl ?_
  refine J_idiv dX3_put_18 (by decide) ?_
  refine J_tcase (c0 := nI 0) (tgt := 48) dX3_put_19 (by decide) (by decide) rfl rfl ?_ (fun n8 => ?_)
  · refine J_aload_n 2 dX3_put_48 rv_is rfl ?_
    refine J_G (fun g3 => ?_)
    refine J_getR kc_3 0 (by decide) rfl rfl kw_2_111 dX3_put_49 g3 ?_
    refine J_iload 1 dX3_put_52 rfl ?_
    refine J_bipush (v := nI 7) dX3_put_54 rfl ?_
    refine J_imul dX3_put_56 ?_
    refine J_iload 0 dX3_put_57 rfl ?_
    refine J_iadd dX3_put_59 ?_
    refine J_dup2 dX3_put_60 rfl rv_cat ?_
    refine J_G (fun g4 => ?_)
    refine J_G (fun g5 => ?_)
    refine J_lald dX3_put_61 g4 g5 ?_
    refine J_lload_n 4 dX3_put_62 rfl ?_
    refine J_lor dX3_put_63 ?_
    refine J_G (fun g6 => ?_)
    refine J_last dX3_put_64 g4 g6 ?_
    refine J_LTh (fun h7 => ?_)
    refine J_goto (tgt := 118) dX3_put_65 rfl ?_
    exact J_vret dX3_put_118
  refine J_tcase (c0 := nI 1) (tgt := 68) dX3_put_19 (by decide) (by decide) rfl rfl ?_ (fun n11 => ?_)
  · refine J_aload_n 2 dX3_put_68 rv_is rfl ?_
    refine J_iload 1 dX3_put_69 rfl ?_
    refine J_iload 0 dX3_put_71 rfl ?_
    refine J_bipush (v := nI 6) dX3_put_73 rfl ?_
    refine J_lload_n 4 dX3_put_75 rfl ?_
    refine J_G (fun g9 => ?_)
    refine J.callV (n := 4) (As := [.int v1, .int v2, .int (nI 6), .long l2]) kc_3 (ctX3_putDown (lx x) (wx x) a0 v1 v2 (nI 6) l2 h) kw_4_136 kw_4_133 kw_4_134 kw_4_135 kw_1_9 (by decide +kernel) rfl (by decide) (Nat.zero_le _) rfl dX3_put_76 g9 (fun _ h10 => ?_)
    show J x _ _ 79 _ [] h10 _
    refine J_goto (tgt := 118) dX3_put_79 rfl ?_
    exact J_vret dX3_put_118
  refine J_tcase (c0 := nI 2) (tgt := 82) dX3_put_19 (by decide) (by decide) rfl rfl ?_ (fun n14 => ?_)
  · refine J_aload_n 2 dX3_put_82 rv_is rfl ?_
    refine J_iload 1 dX3_put_83 rfl ?_
    refine J_iload 0 dX3_put_85 rfl ?_
    refine J_iload 0 dX3_put_87 rfl ?_
    refine J_iconst (v := nI 1) dX3_put_89 rfl ?_
    refine J_iadd dX3_put_90 ?_
    refine J_lload_n 4 dX3_put_91 rfl ?_
    refine J_G (fun g12 => ?_)
    refine J.callV (n := 4) (As := [.int v1, .int v2, .int (v2 + (nI 1)), .long l2]) kc_3 (ctX3_putDown (lx x) (wx x) a0 v1 v2 (v2 + (nI 1)) l2 h) kw_4_136 kw_4_133 kw_4_134 kw_4_135 kw_1_9 (by decide +kernel) rfl (by decide) (Nat.zero_le _) rfl dX3_put_92 g12 (fun _ h13 => ?_)
    show J x _ _ 95 _ [] h13 _
    refine J_goto (tgt := 118) dX3_put_95 rfl ?_
    exact J_vret dX3_put_118
  refine J_tcase (c0 := nI 3) (tgt := 98) dX3_put_19 (by decide) (by decide) rfl rfl ?_ (fun n20 => ?_)
  · refine J_aload_n 2 dX3_put_98 rv_is rfl ?_
    refine J_G (fun g15 => ?_)
    refine J_getR kc_3 1 (by decide) rfl rfl kw_2_115 dX3_put_99 g15 ?_
    refine J_iload 1 dX3_put_102 rfl ?_
    refine J_bipush (v := nI 7) dX3_put_104 rfl ?_
    refine J_imul dX3_put_106 ?_
    refine J_iload 0 dX3_put_107 rfl ?_
    refine J_iadd dX3_put_109 ?_
    refine J_dup2 dX3_put_110 rfl rv_cat ?_
    refine J_G (fun g16 => ?_)
    refine J_G (fun g17 => ?_)
    refine J_lald dX3_put_111 g16 g17 ?_
    refine J_lload_n 4 dX3_put_112 rfl ?_
    refine J_lor dX3_put_113 ?_
    refine J_G (fun g18 => ?_)
    refine J_last dX3_put_114 g16 g18 ?_
    refine J_LTh (fun h19 => ?_)
    refine J_goto (tgt := 118) dX3_put_115 rfl ?_
    exact J_vret dX3_put_118
  refine J_tdef (tgt := 118) dX3_put_19 (by have := sw_ne (by decide : (nI 0 : Int32).toInt = 0) n8; have := sw_ne (by decide : (nI 1 : Int32).toInt = 1) n11; have := sw_ne (by decide : (nI 2 : Int32).toInt = 2) n14; have := sw_ne (by decide : (nI 3 : Int32).toInt = 3) n20; omega) rfl ?_
  exact J_vret dX3_put_118
theorem ctX3_put (l : Launch) (w : WT) (a0 : Nat) (i1 : Int32) (l2 : Int64) (h : AH) : CM l w yX3_put cX3_put 6 none 1 26 KV [rv (w.1) a0, .int i1, .long l2] h (X3_put_f a0 i1 l2 h) :=
  CM.of (by decide +kernel) (by simp [lg_sl, rv_cat, cat_I, cat_L, cat_S]) (lv := [(0, rv (w.1) a0), (1, .int i1), (2, .long l2)]) (by simp [lv_args, rv_cat, cat_I, cat_L, cat_S]) (fun x hx => by subst hx; exact jX3_put x a0 i1 l2 h)
-- FallTrials$Purse.fallCount(LFallTrials$Works;)I
abbrev qX5_fallCount : MT := (cX5_fallCount, RX5, "fallCount", (some .int), 2, 43, 4)
def X5_fallCount_B4 : Nat → Nat → Nat → Int32 → Int32 → AH → Option (Int32 × AH)
  | 0, _, _, _, _, _ => none
  | n + 1, a0, a1, i2, i3, h =>
    if (nI 4) ≤ i3 then (
      some (i2, h)
    ) else (
      G (xc h a0 = 5) <|
      BN (X5_fallsOf_f a0 a1 i3 h) fun v3 h2 =>
      LT (i2 + v3) fun v4 =>
      LT (i3 + nI 1) fun v5 =>
      X5_fallCount_B4 n a0 a1 v4 v5 h2
    )
theorem jX5_fallCount_B4 (x : CT) : ∀ (n : Nat) (a0 : Nat) (a1 : Nat) (i2 : Int32) (i3 : Int32) (h : AH), J x qX5_fallCount ZI 4 [(0, rv (zx x) a0), (1, rv (zx x) a1), (2, .int i2), (3, .int i3)] [] h (X5_fallCount_B4 n a0 a1 i2 i3 h) := by
  intro n
  induction n with
  | zero => intro a0 a1 i2 i3 h; exact J_none
  | succ n ih =>
    intro a0 a1 i2 i3 h
    unfold X5_fallCount_B4
    refine J_iload_n 3 dX5_fallCount_4 rfl ?_
    refine J_iconst (v := nI 4) dX5_fallCount_5 rfl ?_
    refine J_icmp_ge (tgt := 24) dX5_fallCount_6 rfl ?_ ?_
    · refine J_iload_n 2 dX5_fallCount_24 rfl ?_
      exact J_iret dX5_fallCount_25
    · refine J_iload_n 2 dX5_fallCount_9 rfl ?_
      refine J_aload_n 0 dX5_fallCount_10 rv_is rfl ?_
      refine J_aload_n 1 dX5_fallCount_11 rv_is rfl ?_
      refine J_iload_n 3 dX5_fallCount_12 rfl ?_
      refine J_G (fun g1 => ?_)
      refine J.callV (n := 2) (As := [rv (zx x) a1, .int i3]) kc_5 (ctX5_fallsOf (lx x) (wx x) a0 a1 i3 h) kw_5_110 kw_5_107 kw_5_108 kw_5_109 kw_1_8 (by decide +kernel) rfl (by decide) (by simp [rv_cat, cat_I, cat_L, cat_S]) rfl dX5_fallCount_13 g1 (fun v3 h2 => ?_)
      show J x _ _ 16 _ [.int v3, .int i2] h2 _
      refine J_iadd dX5_fallCount_16 ?_
      refine J_LTi (fun v4 => ?_)
      refine J_istore_n dX5_fallCount_17 (by decide) (SD.c (lvr := [(0, rv (zx x) a0), (1, rv (zx x) a1), (3, .int i3)]) [0, 1, 3] rfl rfl 1 rfl rfl rv_cat) ?_
      refine J_iincL (u := i3 + nI 1) 3 dX5_fallCount_18 rfl rfl (by decide) (SD.a (lvr := [(2, .int v4), (0, rv (zx x) a0), (1, rv (zx x) a1)]) [0, 1, 2] rfl rfl) (fun v5 => ?_)
      refine J_goto (tgt := 4) dX5_fallCount_21 rfl ?_
      exact J_sub [2, 3, 1, 0] rfl (ih a0 a1 v4 v5 h2)
def X5_fallCount_f (a0 : Nat) (a1 : Nat) (h : AH) : Option (Int32 × AH) :=
  X5_fallCount_B4 FU a0 a1 (nI 0) (nI 0) h
theorem jX5_fallCount (x : CT) (a0 : Nat) (a1 : Nat) (h : AH) : J x qX5_fallCount ZI 0 [(0, rv (zx x) a0), (1, rv (zx x) a1)] [] h (X5_fallCount_f a0 a1 h) := by
  unfold X5_fallCount_f
  refine J_iconst (v := nI 0) dX5_fallCount_0 rfl ?_
  refine J_istore_n dX5_fallCount_1 (by decide) (SD.c (lvr := [(0, rv (zx x) a0), (1, rv (zx x) a1)]) [0, 1] rfl rfl 1 rfl rfl rv_cat) ?_
  refine J_iconst (v := nI 0) dX5_fallCount_2 rfl ?_
  refine J_istore_n dX5_fallCount_3 (by decide) (SD.a (lvr := [(2, .int (nI 0)), (0, rv (zx x) a0), (1, rv (zx x) a1)]) [0, 1, 2] rfl rfl) ?_
  exact J_sub [2, 3, 1, 0] rfl (jX5_fallCount_B4 x FU a0 a1 (nI 0) (nI 0) h)
theorem ctX5_fallCount (l : Launch) (w : WT) (a0 : Nat) (a1 : Nat) (h : AH) : CM l w yX5_fallCount cX5_fallCount 4 (some .int) 2 43 KI [rv (w.1) a0, rv (w.1) a1] h (X5_fallCount_f a0 a1 h) :=
  CM.of (by decide +kernel) (by simp [lg_sl, rv_cat, cat_I, cat_L, cat_S]) (lv := [(0, rv (w.1) a0), (1, rv (w.1) a1)]) (by simp [lv_args, rv_cat, cat_I, cat_L, cat_S]) (fun x hx => by subst hx; exact jX5_fallCount x a0 a1 h)
-- FallTrials$Purse.begin(LFallTrials$Works;)V
abbrev qX5_begin : MT := (cX5_begin, RX5, "begin", none, 1, 22, 6)
def X5_begin_B109 (a0 : Nat) (h : AH) : Option (Unit × AH) :=
  G (xc h a0 = 5) <|
  LT (pI h a0 5 (nI 0)) fun h2 =>
  G (xc h2 a0 = 5) <|
  LT (pI h2 a0 6 (xI h2 a0 4)) fun h4 =>
  some ((), h4)
theorem jX5_begin_B109 (x : CT) (a0 : Nat) (h : AH) : J x qX5_begin ZV 109 [(0, rv (zx x) a0)] [] h (X5_begin_B109 a0 h) := by
  unfold X5_begin_B109
  refine J_aload_n 0 dX5_begin_109 rv_is rfl ?_
  refine J_iconst (v := nI 0) dX5_begin_110 rfl ?_
  refine J_G (fun g1 => ?_)
  refine J_putI kc_5 5 (by decide) rfl rfl rfl rfl (Or.inl rfl) kw_2_83 dX5_begin_111 g1 ?_
  refine J_LTh (fun h2 => ?_)
  refine J_aload_n 0 dX5_begin_114 rv_is rfl ?_
  refine J_aload_n 0 dX5_begin_115 rv_is rfl ?_
  refine J_G (fun g3 => ?_)
  refine J_getI kc_5 4 (by decide) rfl rfl kw_2_82 dX5_begin_116 g3 ?_
  refine J_putI kc_5 6 (by decide) rfl rfl rfl rfl (Or.inl rfl) kw_2_85 dX5_begin_119 g3 ?_
  refine J_LTh (fun h4 => ?_)
  exact J_vret dX5_begin_122
def X5_begin_B103 (k7 : (Nat → Nat → Int32 → AH → Option (Unit × AH))) (a0 : Nat) (a1 : Nat) (i2 : Int32) (h : AH) : Option (Unit × AH) :=
  LT (i2 + nI 1) fun v1 =>
  k7 a0 a1 v1 h
theorem jX5_begin_B103 (x : CT) (k7 : (Nat → Nat → Int32 → AH → Option (Unit × AH))) (hk7 : ∀ (a0 : Nat) (a1 : Nat) (i2 : Int32) (h : AH), J x qX5_begin ZV 7 [(0, rv (zx x) a0), (1, rv (zx x) a1), (2, .int i2)] [] h (k7 a0 a1 i2 h)) (a0 : Nat) (a1 : Nat) (i2 : Int32) (h : AH) : J x qX5_begin ZV 103 [(0, rv (zx x) a0), (1, rv (zx x) a1), (2, .int i2)] [] h (X5_begin_B103 k7 a0 a1 i2 h) := by
  unfold X5_begin_B103
  refine J_iincL (u := i2 + nI 1) 2 dX5_begin_103 rfl rfl (by decide) (SD.c (lvr := [(0, rv (zx x) a0), (1, rv (zx x) a1)]) [0, 1] rfl rfl 1 rfl rfl rv_cat) (fun v1 => ?_)
  refine J_goto (tgt := 7) dX5_begin_106 rfl ?_
  exact J_sub [1, 2, 0] rfl (hk7 a0 a1 v1 h)
def X5_begin_B97 (k7 : (Nat → Nat → Int32 → AH → Option (Unit × AH))) (k37 : (Nat → Nat → Int32 → Int32 → Int32 → AH → Option (Unit × AH))) (a0 : Nat) (a1 : Nat) (i2 : Int32) (i3 : Int32) (i4 : Int32) (h : AH) : Option (Unit × AH) :=
  LT (i4 + nI 1) fun v1 =>
  k37 a0 a1 i2 i3 v1 h
theorem jX5_begin_B97 (x : CT) (k7 : (Nat → Nat → Int32 → AH → Option (Unit × AH))) (hk7 : ∀ (a0 : Nat) (a1 : Nat) (i2 : Int32) (h : AH), J x qX5_begin ZV 7 [(0, rv (zx x) a0), (1, rv (zx x) a1), (2, .int i2)] [] h (k7 a0 a1 i2 h)) (k37 : (Nat → Nat → Int32 → Int32 → Int32 → AH → Option (Unit × AH))) (hk37 : ∀ (a0 : Nat) (a1 : Nat) (i2 : Int32) (i3 : Int32) (i4 : Int32) (h : AH), J x qX5_begin ZV 37 [(0, rv (zx x) a0), (1, rv (zx x) a1), (2, .int i2), (3, .int i3), (4, .int i4)] [] h (k37 a0 a1 i2 i3 i4 h)) (a0 : Nat) (a1 : Nat) (i2 : Int32) (i3 : Int32) (i4 : Int32) (h : AH) : J x qX5_begin ZV 97 [(0, rv (zx x) a0), (1, rv (zx x) a1), (2, .int i2), (3, .int i3), (4, .int i4)] [] h (X5_begin_B97 k7 k37 a0 a1 i2 i3 i4 h) := by
  unfold X5_begin_B97
  refine J_iincL (u := i4 + nI 1) 4 dX5_begin_97 rfl rfl (by decide) (SD.a (lvr := [(0, rv (zx x) a0), (1, rv (zx x) a1), (2, .int i2), (3, .int i3)]) [0, 1, 2, 3] rfl rfl) (fun v1 => ?_)
  refine J_goto (tgt := 37) dX5_begin_100 rfl ?_
  exact J_sub [1, 2, 3, 4, 0] rfl (hk37 a0 a1 i2 i3 v1 h)
def X5_begin_B46 (k7 : (Nat → Nat → Int32 → AH → Option (Unit × AH))) (k37 : (Nat → Nat → Int32 → Int32 → Int32 → AH → Option (Unit × AH))) : Nat → Nat → Nat → Int32 → Int32 → Int32 → Int32 → AH → Option (Unit × AH)
  | 0, _, _, _, _, _, _, _ => none
  | n + 1, a0, a1, i2, i3, i4, i5, h =>
    G (xc h a1 = 10) <|
    if (xI h a1 1) ≤ i5 then (
      X5_begin_B97 k7 k37 a0 a1 i2 i3 i4 h
    ) else (
      G (xc h a0 = 5) <|
      if (nI 120) ≤ (xI h a0 4) then (
        X5_begin_B97 k7 k37 a0 a1 i2 i3 i4 h
      ) else (
        G (xc h a0 = 5) <|
        BN (X11_numberOf_f i2 i4 i5 h) fun v5 h4 =>
        G (xc h4 (xR h a0 1) = 16) <|
        G (gx (xI h a0 4) (xz h4 (xR h a0 1))) <|
        LT (pI h4 (xR h a0 1) (xI h a0 4).toNatClampNeg v5) fun h8 =>
        G (xc h8 a0 = 5) <|
        LT (pI h8 a0 4 ((xI h8 a0 4) + (nI 1))) fun h10 =>
        LT (i5 + nI 1) fun v11 =>
        X5_begin_B46 k7 k37 n a0 a1 i2 i3 i4 v11 h10
      )
    )
theorem jX5_begin_B46 (x : CT) (k7 : (Nat → Nat → Int32 → AH → Option (Unit × AH))) (hk7 : ∀ (a0 : Nat) (a1 : Nat) (i2 : Int32) (h : AH), J x qX5_begin ZV 7 [(0, rv (zx x) a0), (1, rv (zx x) a1), (2, .int i2)] [] h (k7 a0 a1 i2 h)) (k37 : (Nat → Nat → Int32 → Int32 → Int32 → AH → Option (Unit × AH))) (hk37 : ∀ (a0 : Nat) (a1 : Nat) (i2 : Int32) (i3 : Int32) (i4 : Int32) (h : AH), J x qX5_begin ZV 37 [(0, rv (zx x) a0), (1, rv (zx x) a1), (2, .int i2), (3, .int i3), (4, .int i4)] [] h (k37 a0 a1 i2 i3 i4 h)) : ∀ (n : Nat) (a0 : Nat) (a1 : Nat) (i2 : Int32) (i3 : Int32) (i4 : Int32) (i5 : Int32) (h : AH), J x qX5_begin ZV 46 [(0, rv (zx x) a0), (1, rv (zx x) a1), (2, .int i2), (3, .int i3), (4, .int i4), (5, .int i5)] [] h (X5_begin_B46 k7 k37 n a0 a1 i2 i3 i4 i5 h) := by
  intro n
  induction n with
  | zero => intro a0 a1 i2 i3 i4 i5 h; exact J_none
  | succ n ih =>
    intro a0 a1 i2 i3 i4 i5 h
    unfold X5_begin_B46
    refine J_iload 5 dX5_begin_46 rfl ?_
    refine J_aload_n 1 dX5_begin_48 rv_is rfl ?_
    refine J_G (fun g1 => ?_)
    refine J_getI kc_10 1 (by decide) rfl rfl kw_2_21 dX5_begin_49 g1 ?_
    refine J_icmp_ge (tgt := 97) dX5_begin_52 rfl ?_ ?_
    · exact J_sub [0, 1, 2, 3, 4] rfl (jX5_begin_B97 x k7 hk7 k37 hk37 a0 a1 i2 i3 i4 h)
    · refine J_aload_n 0 dX5_begin_55 rv_is rfl ?_
      refine J_G (fun g2 => ?_)
      refine J_getI kc_5 4 (by decide) rfl rfl kw_2_82 dX5_begin_56 g2 ?_
      refine J_bipush (v := nI 120) dX5_begin_59 rfl ?_
      refine J_icmp_ge (tgt := 97) dX5_begin_61 rfl ?_ ?_
      · exact J_sub [0, 1, 2, 3, 4] rfl (jX5_begin_B97 x k7 hk7 k37 hk37 a0 a1 i2 i3 i4 h)
      · refine J_aload_n 0 dX5_begin_64 rv_is rfl ?_
        refine J_G (fun g3 => ?_)
        refine J_getR kc_5 1 (by decide) rfl rfl kw_2_79 dX5_begin_65 g3 ?_
        refine J_aload_n 0 dX5_begin_68 rv_is rfl ?_
        refine J_getI kc_5 4 (by decide) rfl rfl kw_2_82 dX5_begin_69 g3 ?_
        refine J_iload_n 2 dX5_begin_72 rfl ?_
        refine J_iload 4 dX5_begin_73 rfl ?_
        refine J_iload 5 dX5_begin_75 rfl ?_
        refine J.callSN (n := 3) (As := [.int i2, .int i4, .int i5]) (ctX11_numberOf (lx x) (wx x) i2 i4 i5 h) kw_4_96 kn_8 kw_4_95 kw_1_1 (by decide +kernel) rfl (by decide) (by simp [rv_cat, cat_I, cat_L, cat_S]) rfl dX5_begin_77 (fun v5 h4 => ?_)
        show J x _ _ 80 _ [.int v5, .int (xI h a0 4), rv (zx x) (xR h a0 1)] h4 _
        refine J_G (fun g6 => ?_)
        refine J_G (fun g7 => ?_)
        refine J_iast dX5_begin_80 g6 g7 ?_
        refine J_LTh (fun h8 => ?_)
        refine J_aload_n 0 dX5_begin_81 rv_is rfl ?_
        refine J_dup dX5_begin_82 rv_cat ?_
        refine J_G (fun g9 => ?_)
        refine J_getI kc_5 4 (by decide) rfl rfl kw_2_82 dX5_begin_83 g9 ?_
        refine J_iconst (v := nI 1) dX5_begin_86 rfl ?_
        refine J_iadd dX5_begin_87 ?_
        refine J_putI kc_5 4 (by decide) rfl rfl rfl rfl (Or.inl rfl) kw_2_82 dX5_begin_88 g9 ?_
        refine J_LTh (fun h10 => ?_)
        refine J_iincL (u := i5 + nI 1) 5 dX5_begin_91 rfl rfl (by decide) (SD.a (lvr := [(0, rv (zx x) a0), (1, rv (zx x) a1), (2, .int i2), (3, .int i3), (4, .int i4)]) [0, 1, 2, 3, 4] rfl rfl) (fun v11 => ?_)
        refine J_goto (tgt := 46) dX5_begin_94 rfl ?_
        exact J_sub [1, 2, 3, 4, 5, 0] rfl (ih a0 a1 i2 i3 i4 v11 h10)
def X5_begin_B37 (k7 : (Nat → Nat → Int32 → AH → Option (Unit × AH))) : Nat → Nat → Nat → Int32 → Int32 → Int32 → AH → Option (Unit × AH)
  | 0, _, _, _, _, _, _ => none
  | n + 1, a0, a1, i2, i3, i4, h =>
    if i3 ≤ i4 then (
      X5_begin_B103 k7 a0 a1 i2 h
    ) else (
      X5_begin_B46 k7 (X5_begin_B37 k7 n) FU a0 a1 i2 i3 i4 (nI 0) h
    )
theorem jX5_begin_B37 (x : CT) (k7 : (Nat → Nat → Int32 → AH → Option (Unit × AH))) (hk7 : ∀ (a0 : Nat) (a1 : Nat) (i2 : Int32) (h : AH), J x qX5_begin ZV 7 [(0, rv (zx x) a0), (1, rv (zx x) a1), (2, .int i2)] [] h (k7 a0 a1 i2 h)) : ∀ (n : Nat) (a0 : Nat) (a1 : Nat) (i2 : Int32) (i3 : Int32) (i4 : Int32) (h : AH), J x qX5_begin ZV 37 [(0, rv (zx x) a0), (1, rv (zx x) a1), (2, .int i2), (3, .int i3), (4, .int i4)] [] h (X5_begin_B37 k7 n a0 a1 i2 i3 i4 h) := by
  intro n
  induction n with
  | zero => intro a0 a1 i2 i3 i4 h; exact J_none
  | succ n ih =>
    intro a0 a1 i2 i3 i4 h
    unfold X5_begin_B37
    refine J_iload 4 dX5_begin_37 rfl ?_
    refine J_iload_n 3 dX5_begin_39 rfl ?_
    refine J_icmp_ge (tgt := 103) dX5_begin_40 rfl ?_ ?_
    · exact J_sub [0, 1, 2] rfl (jX5_begin_B103 x k7 hk7 a0 a1 i2 h)
    · refine J_iconst (v := nI 0) dX5_begin_43 rfl ?_
      refine J_istore dX5_begin_44 (by decide) (SD.a (lvr := [(0, rv (zx x) a0), (1, rv (zx x) a1), (2, .int i2), (3, .int i3), (4, .int i4)]) [0, 1, 2, 3, 4] rfl rfl) ?_
      exact J_sub [1, 2, 3, 4, 5, 0] rfl (jX5_begin_B46 x k7 hk7 (X5_begin_B37 k7 n) ih FU a0 a1 i2 i3 i4 (nI 0) h)
def X5_begin_B33 (k7 : (Nat → Nat → Int32 → AH → Option (Unit × AH))) (a0 : Nat) (a1 : Nat) (i2 : Int32) (is0 : Int32) (h : AH) : Option (Unit × AH) :=
  X5_begin_B37 k7 FU a0 a1 i2 is0 (nI 0) h
theorem jX5_begin_B33 (x : CT) (k7 : (Nat → Nat → Int32 → AH → Option (Unit × AH))) (hk7 : ∀ (a0 : Nat) (a1 : Nat) (i2 : Int32) (h : AH), J x qX5_begin ZV 7 [(0, rv (zx x) a0), (1, rv (zx x) a1), (2, .int i2)] [] h (k7 a0 a1 i2 h)) (a0 : Nat) (a1 : Nat) (i2 : Int32) (is0 : Int32) (h : AH) : J x qX5_begin ZV 33 [(0, rv (zx x) a0), (1, rv (zx x) a1), (2, .int i2)] [.int is0] h (X5_begin_B33 k7 a0 a1 i2 is0 h) := by
  unfold X5_begin_B33
  refine J_istore_n dX5_begin_33 (by decide) (SD.a (lvr := [(0, rv (zx x) a0), (1, rv (zx x) a1), (2, .int i2)]) [0, 1, 2] rfl rfl) ?_
  refine J_iconst (v := nI 0) dX5_begin_34 rfl ?_
  refine J_istore dX5_begin_35 (by decide) (SD.a (lvr := [(3, .int is0), (0, rv (zx x) a0), (1, rv (zx x) a1), (2, .int i2)]) [0, 1, 2, 3] rfl rfl) ?_
  exact J_sub [2, 3, 4, 1, 0] rfl (jX5_begin_B37 x k7 hk7 FU a0 a1 i2 is0 (nI 0) h)
def X5_begin_B7 : Nat → Nat → Nat → Int32 → AH → Option (Unit × AH)
  | 0, _, _, _, _ => none
  | n + 1, a0, a1, i2, h =>
    if (nI 4) ≤ i2 then (
      X5_begin_B109 a0 h
    ) else (
      G (xc h a0 = 5) <|
      G (xc h (xR h a0 0) = 16) <|
      G (gx i2 (xz h (xR h a0 0))) <|
      if (xI h (xR h a0 0) i2.toNatClampNeg) = 0 then (
        X5_begin_B33 (X5_begin_B7 n) a0 a1 i2 (nI 0) h
      ) else (
        G (xc h a1 = 10) <|
        G (xc h (xR h a1 0) = 0) <|
        BN (X0_hitBy_f (xR h a1 0) i2 h) fun v7 h6 =>
        X5_begin_B33 (X5_begin_B7 n) a0 a1 i2 v7 h6
      )
    )
theorem jX5_begin_B7 (x : CT) : ∀ (n : Nat) (a0 : Nat) (a1 : Nat) (i2 : Int32) (h : AH), J x qX5_begin ZV 7 [(0, rv (zx x) a0), (1, rv (zx x) a1), (2, .int i2)] [] h (X5_begin_B7 n a0 a1 i2 h) := by
  intro n
  induction n with
  | zero => intro a0 a1 i2 h; exact J_none
  | succ n ih =>
    intro a0 a1 i2 h
    unfold X5_begin_B7
    refine J_iload_n 2 dX5_begin_7 rfl ?_
    refine J_iconst (v := nI 4) dX5_begin_8 rfl ?_
    refine J_icmp_ge (tgt := 109) dX5_begin_9 rfl ?_ ?_
    · exact J_sub [0] rfl (jX5_begin_B109 x a0 h)
    · refine J_aload_n 0 dX5_begin_12 rv_is rfl ?_
      refine J_G (fun g1 => ?_)
      refine J_getR kc_5 0 (by decide) rfl rfl kw_2_77 dX5_begin_13 g1 ?_
      refine J_iload_n 2 dX5_begin_16 rfl ?_
      refine J_G (fun g2 => ?_)
      refine J_G (fun g3 => ?_)
      refine J_iald dX5_begin_17 g2 g3 ?_
      refine J_if_ne (tgt := 25) dX5_begin_18 rfl ?_ ?_
      · refine J_aload_n 1 dX5_begin_25 rv_is rfl ?_
        refine J_G (fun g4 => ?_)
        refine J_getR kc_10 0 (by decide) rfl rfl kw_2_15 dX5_begin_26 g4 ?_
        refine J_iload_n 2 dX5_begin_29 rfl ?_
        refine J_G (fun g5 => ?_)
        refine J.callV (n := 1) (As := [.int i2]) kc_0 (ctX0_hitBy (lx x) (wx x) (xR h a1 0) i2 h) kw_4_93 kw_5_111 kw_4_91 kw_4_92 kw_1_2 (by decide +kernel) rfl (by decide) (Nat.zero_le _) rfl dX5_begin_30 g5 (fun v7 h6 => ?_)
        show J x _ _ 33 _ [.int v7] h6 _
        exact (jX5_begin_B33 x (X5_begin_B7 n) ih a0 a1 i2 v7 h6)
      · refine J_iconst (v := nI 0) dX5_begin_21 rfl ?_
        refine J_goto (tgt := 33) dX5_begin_22 rfl ?_
        exact (jX5_begin_B33 x (X5_begin_B7 n) ih a0 a1 i2 (nI 0) h)
def X5_begin_f (a0 : Nat) (a1 : Nat) (h : AH) : Option (Unit × AH) :=
  G (xc h a0 = 5) <|
  LT (pI h a0 4 (nI 0)) fun h2 =>
  X5_begin_B7 FU a0 a1 (nI 0) h2
theorem jX5_begin (x : CT) (a0 : Nat) (a1 : Nat) (h : AH) : J x qX5_begin ZV 0 [(0, rv (zx x) a0), (1, rv (zx x) a1)] [] h (X5_begin_f a0 a1 h) := by
  unfold X5_begin_f
  refine J_aload_n 0 dX5_begin_0 rv_is rfl ?_
  refine J_iconst (v := nI 0) dX5_begin_1 rfl ?_
  refine J_G (fun g1 => ?_)
  refine J_putI kc_5 4 (by decide) rfl rfl rfl rfl (Or.inl rfl) kw_2_82 dX5_begin_2 g1 ?_
  refine J_LTh (fun h2 => ?_)
  refine J_iconst (v := nI 0) dX5_begin_5 rfl ?_
  refine J_istore_n dX5_begin_6 (by decide) (SD.c (lvr := [(0, rv (zx x) a0), (1, rv (zx x) a1)]) [0, 1] rfl rfl 1 rfl rfl rv_cat) ?_
  exact J_sub [1, 2, 0] rfl (jX5_begin_B7 x FU a0 a1 (nI 0) h2)
theorem ctX5_begin (l : Launch) (w : WT) (a0 : Nat) (a1 : Nat) (h : AH) : CM l w yX5_begin cX5_begin 6 none 1 22 KV [rv (w.1) a0, rv (w.1) a1] h (X5_begin_f a0 a1 h) :=
  CM.of (by decide +kernel) (by simp [lg_sl, rv_cat, cat_I, cat_L, cat_S]) (lv := [(0, rv (w.1) a0), (1, rv (w.1) a1)]) (by simp [lv_args, rv_cat, cat_I, cat_L, cat_S]) (fun x hx => by subst hx; exact jX5_begin x a0 a1 h)
