-- FallTrials$Trace.take(LFallTrials$Works;LFallTrials$FallLanes;LFallTrials$Course;)V
abbrev qX8_take : MT := (cX8_take, RX8, "take", none, 2, 51, 7)
def X8_take_B189 (is0 : Int32) (as1 : Nat) (h : AH) : Option (Unit × AH) :=
  G (xc h as1 = 8) <|
  LT (pI h as1 6 is0) fun h2 =>
  some ((), h2)
theorem jX8_take_B189 (x : CT) (is0 : Int32) (as1 : Nat) (h : AH) : J x qX8_take ZV 189 [] [.int is0, rv (zx x) as1] h (X8_take_B189 is0 as1 h) := by
  unfold X8_take_B189
  refine J_G (fun g1 => ?_)
  refine J_putI kc_8 6 (by decide) rfl rfl rfl rfl (Or.inl rfl) kw_2_150 dX8_take_189 g1 ?_
  refine J_LTh (fun h2 => ?_)
  exact J_vret dX8_take_192
def X8_take_B157 (a0 : Nat) (a3 : Nat) (h : AH) : Option (Unit × AH) :=
  G (xc h a3 = 2) <|
  if (lg_cmp ((xL h a3 5) &&& (lN 1)) (lN 0)) = 0 then (
    G (xc h a3 = 2) <|
    if (lg_cmp ((xL h a3 6) &&& (lN 1)) (lN 0)) = 0 then (
      X8_take_B189 (nI 1) a0 h
    ) else (
      X8_take_B189 (nI 0) a0 h
    )
  ) else (
    X8_take_B189 (nI 2) a0 h
  )
theorem jX8_take_B157 (x : CT) (a0 : Nat) (a3 : Nat) (h : AH) : J x qX8_take ZV 157 [(0, rv (zx x) a0), (3, rv (zx x) a3)] [] h (X8_take_B157 a0 a3 h) := by
  unfold X8_take_B157
  refine J_aload_n 0 dX8_take_157 rv_is rfl ?_
  refine J_aload_n 1 dX8_take_158 rv_is rfl ?_
  refine J_G (fun g1 => ?_)
  refine J_getL kc_2 5 (by decide) rfl rfl kw_2_181 dX8_take_159 g1 ?_
  refine J_lconst (v := lN 1) dX8_take_162 rfl ?_
  refine J_land dX8_take_163 ?_
  refine J_lconst (v := lN 0) dX8_take_164 rfl ?_
  refine J_lcmp dX8_take_165 ?_
  refine J_if_eq (tgt := 173) dX8_take_166 rfl ?_ ?_
  · refine J_aload_n 1 dX8_take_173 rv_is rfl ?_
    refine J_G (fun g2 => ?_)
    refine J_getL kc_2 6 (by decide) rfl rfl kw_2_184 dX8_take_174 g2 ?_
    refine J_lconst (v := lN 1) dX8_take_177 rfl ?_
    refine J_land dX8_take_178 ?_
    refine J_lconst (v := lN 0) dX8_take_179 rfl ?_
    refine J_lcmp dX8_take_180 ?_
    refine J_if_eq (tgt := 188) dX8_take_181 rfl ?_ ?_
    · refine J_iconst (v := nI 1) dX8_take_188 rfl ?_
      exact J_sub [] rfl (jX8_take_B189 x (nI 1) a0 h)
    · refine J_iconst (v := nI 0) dX8_take_184 rfl ?_
      refine J_goto (tgt := 189) dX8_take_185 rfl ?_
      exact J_sub [] rfl (jX8_take_B189 x (nI 0) a0 h)
  · refine J_iconst (v := nI 2) dX8_take_169 rfl ?_
    refine J_goto (tgt := 189) dX8_take_170 rfl ?_
    exact J_sub [] rfl (jX8_take_B189 x (nI 2) a0 h)
def X8_take_B151 (k102 : (Nat → Nat → Nat → Nat → Int32 → AH → Option (Unit × AH))) (a0 : Nat) (a1 : Nat) (a2 : Nat) (a3 : Nat) (i4 : Int32) (h : AH) : Option (Unit × AH) :=
  LT (i4 + nI 1) fun v1 =>
  k102 a0 a1 a2 a3 v1 h
theorem jX8_take_B151 (x : CT) (k102 : (Nat → Nat → Nat → Nat → Int32 → AH → Option (Unit × AH))) (hk102 : ∀ (a0 : Nat) (a1 : Nat) (a2 : Nat) (a3 : Nat) (i4 : Int32) (h : AH), J x qX8_take ZV 102 [(0, rv (zx x) a0), (1, rv (zx x) a1), (2, rv (zx x) a2), (3, rv (zx x) a3), (4, .int i4)] [] h (k102 a0 a1 a2 a3 i4 h)) (a0 : Nat) (a1 : Nat) (a2 : Nat) (a3 : Nat) (i4 : Int32) (h : AH) : J x qX8_take ZV 151 [(0, rv (zx x) a0), (1, rv (zx x) a1), (2, rv (zx x) a2), (3, rv (zx x) a3), (4, .int i4)] [] h (X8_take_B151 k102 a0 a1 a2 a3 i4 h) := by
  unfold X8_take_B151
  refine J_iincL (u := i4 + nI 1) 4 dX8_take_151 rfl rfl (by decide) (SD.c (lvr := [(0, rv (zx x) a0), (1, rv (zx x) a1), (2, rv (zx x) a2), (3, rv (zx x) a3)]) [0, 1, 2, 3] rfl rfl 3 rfl rfl rv_cat) (fun v1 => ?_)
  refine J_goto (tgt := 102) dX8_take_154 rfl ?_
  exact J_sub [1, 2, 3, 4, 0] rfl (hk102 a0 a1 a2 a3 v1 h)
def X8_take_B125 (k102 : (Nat → Nat → Nat → Nat → Int32 → AH → Option (Unit × AH))) : Nat → Nat → Nat → Nat → Nat → Int32 → Int32 → AH → Option (Unit × AH)
  | 0, _, _, _, _, _, _, _ => none
  | n + 1, a0, a1, a2, a3, i4, i5, h =>
    G (xc h a1 = 10) <|
    if (xI h a1 1) ≤ i5 then (
      X8_take_B151 k102 a0 a1 a2 a3 i4 h
    ) else (
      G (xc h a0 = 8) <|
      BN (X8_takeWord_f a0 a1 a2 a3 i4 i5 h) fun _ h3 =>
      LT (i5 + nI 1) fun v4 =>
      X8_take_B125 k102 n a0 a1 a2 a3 i4 v4 h3
    )
theorem jX8_take_B125 (x : CT) (k102 : (Nat → Nat → Nat → Nat → Int32 → AH → Option (Unit × AH))) (hk102 : ∀ (a0 : Nat) (a1 : Nat) (a2 : Nat) (a3 : Nat) (i4 : Int32) (h : AH), J x qX8_take ZV 102 [(0, rv (zx x) a0), (1, rv (zx x) a1), (2, rv (zx x) a2), (3, rv (zx x) a3), (4, .int i4)] [] h (k102 a0 a1 a2 a3 i4 h)) : ∀ (n : Nat) (a0 : Nat) (a1 : Nat) (a2 : Nat) (a3 : Nat) (i4 : Int32) (i5 : Int32) (h : AH), J x qX8_take ZV 125 [(0, rv (zx x) a0), (1, rv (zx x) a1), (2, rv (zx x) a2), (3, rv (zx x) a3), (4, .int i4), (5, .int i5)] [] h (X8_take_B125 k102 n a0 a1 a2 a3 i4 i5 h) := by
  intro n
  induction n with
  | zero => intro a0 a1 a2 a3 i4 i5 h; exact J_none
  | succ n ih =>
    intro a0 a1 a2 a3 i4 i5 h
    unfold X8_take_B125
    refine J_iload 5 dX8_take_125 rfl ?_
    refine J_aload_n 1 dX8_take_127 rv_is rfl ?_
    refine J_G (fun g1 => ?_)
    refine J_getI kc_10 1 (by decide) rfl rfl kw_2_18 dX8_take_128 g1 ?_
    refine J_icmp_ge (tgt := 151) dX8_take_131 rfl ?_ ?_
    · exact J_sub [0, 1, 2, 3, 4] rfl (jX8_take_B151 x k102 hk102 a0 a1 a2 a3 i4 h)
    · refine J_aload_n 0 dX8_take_134 rv_is rfl ?_
      refine J_aload_n 1 dX8_take_135 rv_is rfl ?_
      refine J_aload_n 2 dX8_take_136 rv_is rfl ?_
      refine J_aload_n 3 dX8_take_137 rv_is rfl ?_
      refine J_iload 4 dX8_take_138 rfl ?_
      refine J_iload 5 dX8_take_140 rfl ?_
      refine J_G (fun g2 => ?_)
      refine J.callV (n := 5) (As := [rv (zx x) a1, rv (zx x) a2, rv (zx x) a3, .int i4, .int i5]) kc_8 (ctX8_takeWord (lx x) (wx x) a0 a1 a2 a3 i4 i5 h) kw_4_202 kw_4_199 kw_4_200 kw_4_201 kw_1_10 (by decide +kernel) rfl (by decide) (Nat.zero_le _) rfl dX8_take_142 g2 (fun _ h3 => ?_)
      show J x _ _ 145 _ [] h3 _
      refine J_iincL (u := i5 + nI 1) 5 dX8_take_145 rfl rfl (by decide) (SD.a (lvr := [(0, rv (zx x) a0), (1, rv (zx x) a1), (2, rv (zx x) a2), (3, rv (zx x) a3), (4, .int i4)]) [0, 1, 2, 3, 4] rfl rfl) (fun v4 => ?_)
      refine J_goto (tgt := 125) dX8_take_148 rfl ?_
      exact J_sub [1, 2, 3, 4, 5, 0] rfl (ih a0 a1 a2 a3 i4 v4 h3)
def X8_take_B102 : Nat → Nat → Nat → Nat → Nat → Int32 → AH → Option (Unit × AH)
  | 0, _, _, _, _, _, _ => none
  | n + 1, a0, a1, a2, a3, i4, h =>
    G (xc h a1 = 10) <|
    G (xc h (xR h a1 0) = 0) <|
    if (xI h (xR h a1 0) 4) ≤ i4 then (
      X8_take_B157 a0 a3 h
    ) else (
      G (xc h a0 = 8) <|
      G (xc h (xR h a0 2) = 16) <|
      G (gx i4 (xz h (xR h a0 2))) <|
      LT (pI h (xR h a0 2) i4.toNatClampNeg (nI 0)) fun h6 =>
      X8_take_B125 (X8_take_B102 n) FU a0 a1 a2 a3 i4 (nI 0) h6
    )
theorem jX8_take_B102 (x : CT) : ∀ (n : Nat) (a0 : Nat) (a1 : Nat) (a2 : Nat) (a3 : Nat) (i4 : Int32) (h : AH), J x qX8_take ZV 102 [(0, rv (zx x) a0), (1, rv (zx x) a1), (2, rv (zx x) a2), (3, rv (zx x) a3), (4, .int i4)] [] h (X8_take_B102 n a0 a1 a2 a3 i4 h) := by
  intro n
  induction n with
  | zero => intro a0 a1 a2 a3 i4 h; exact J_none
  | succ n ih =>
    intro a0 a1 a2 a3 i4 h
    unfold X8_take_B102
    refine J_iload 4 dX8_take_102 rfl ?_
    refine J_aload_n 1 dX8_take_104 rv_is rfl ?_
    refine J_G (fun g1 => ?_)
    refine J_getR kc_10 0 (by decide) rfl rfl kw_2_14 dX8_take_105 g1 ?_
    refine J_G (fun g2 => ?_)
    refine J_getI kc_0 4 (by decide) rfl rfl kw_1_126 dX8_take_108 g2 ?_
    refine J_icmp_ge (tgt := 157) dX8_take_111 rfl ?_ ?_
    · exact J_sub [0, 3] rfl (jX8_take_B157 x a0 a3 h)
    · refine J_aload_n 0 dX8_take_114 rv_is rfl ?_
      refine J_G (fun g3 => ?_)
      refine J_getR kc_8 2 (by decide) rfl rfl kw_2_143 dX8_take_115 g3 ?_
      refine J_iload 4 dX8_take_118 rfl ?_
      refine J_iconst (v := nI 0) dX8_take_120 rfl ?_
      refine J_G (fun g4 => ?_)
      refine J_G (fun g5 => ?_)
      refine J_iast dX8_take_121 g4 g5 ?_
      refine J_LTh (fun h6 => ?_)
      refine J_iconst (v := nI 0) dX8_take_122 rfl ?_
      refine J_istore dX8_take_123 (by decide) (SD.a (lvr := [(0, rv (zx x) a0), (1, rv (zx x) a1), (2, rv (zx x) a2), (3, rv (zx x) a3), (4, .int i4)]) [0, 1, 2, 3, 4] rfl rfl) ?_
      exact J_sub [1, 2, 3, 4, 5, 0] rfl (jX8_take_B125 x (X8_take_B102 n) ih FU a0 a1 a2 a3 i4 (nI 0) h6)
def X8_take_B99 (a0 : Nat) (a1 : Nat) (a2 : Nat) (a3 : Nat) (h : AH) : Option (Unit × AH) :=
  X8_take_B102 FU a0 a1 a2 a3 (nI 0) h
theorem jX8_take_B99 (x : CT) (a0 : Nat) (a1 : Nat) (a2 : Nat) (a3 : Nat) (h : AH) : J x qX8_take ZV 99 [(0, rv (zx x) a0), (1, rv (zx x) a1), (2, rv (zx x) a2), (3, rv (zx x) a3)] [] h (X8_take_B99 a0 a1 a2 a3 h) := by
  unfold X8_take_B99
  refine J_iconst (v := nI 0) dX8_take_99 rfl ?_
  refine J_istore dX8_take_100 (by decide) (SD.c (lvr := [(0, rv (zx x) a0), (1, rv (zx x) a1), (2, rv (zx x) a2), (3, rv (zx x) a3)]) [0, 1, 2, 3] rfl rfl 3 rfl rfl rv_cat) ?_
  exact J_sub [1, 2, 3, 4, 0] rfl (jX8_take_B102 x FU a0 a1 a2 a3 (nI 0) h)
def X8_take_B93 (k3 : (Nat → Nat → Nat → Nat → Int32 → AH → Option (Unit × AH))) (a0 : Nat) (a1 : Nat) (a2 : Nat) (a3 : Nat) (i4 : Int32) (h : AH) : Option (Unit × AH) :=
  LT (i4 + nI 1) fun v1 =>
  k3 a0 a1 a2 a3 v1 h
theorem jX8_take_B93 (x : CT) (k3 : (Nat → Nat → Nat → Nat → Int32 → AH → Option (Unit × AH))) (hk3 : ∀ (a0 : Nat) (a1 : Nat) (a2 : Nat) (a3 : Nat) (i4 : Int32) (h : AH), J x qX8_take ZV 3 [(0, rv (zx x) a0), (1, rv (zx x) a1), (2, rv (zx x) a2), (3, rv (zx x) a3), (4, .int i4)] [] h (k3 a0 a1 a2 a3 i4 h)) (a0 : Nat) (a1 : Nat) (a2 : Nat) (a3 : Nat) (i4 : Int32) (h : AH) : J x qX8_take ZV 93 [(0, rv (zx x) a0), (1, rv (zx x) a1), (2, rv (zx x) a2), (3, rv (zx x) a3), (4, .int i4)] [] h (X8_take_B93 k3 a0 a1 a2 a3 i4 h) := by
  unfold X8_take_B93
  refine J_iincL (u := i4 + nI 1) 4 dX8_take_93 rfl rfl (by decide) (SD.c (lvr := [(0, rv (zx x) a0), (1, rv (zx x) a1), (2, rv (zx x) a2), (3, rv (zx x) a3)]) [0, 1, 2, 3] rfl rfl 3 rfl rfl rv_cat) (fun v1 => ?_)
  refine J_goto (tgt := 3) dX8_take_96 rfl ?_
  exact J_sub [1, 2, 3, 4, 0] rfl (hk3 a0 a1 a2 a3 v1 h)
def X8_take_B26 (k3 : (Nat → Nat → Nat → Nat → Int32 → AH → Option (Unit × AH))) : Nat → Nat → Nat → Nat → Nat → Int32 → Int32 → AH → Option (Unit × AH)
  | 0, _, _, _, _, _, _, _ => none
  | n + 1, a0, a1, a2, a3, i4, i5, h =>
    G (xc h a1 = 10) <|
    if (xI h a1 1) < i5 then (
      X8_take_B93 k3 a0 a1 a2 a3 i4 h
    ) else (
      G (xc h a2 = 3) <|
      G (xc h (xR h a2 2) = 17) <|
      G (gx ((i4 * (nI 7)) + i5) (xz h (xR h a2 2))) <|
      LT (((xL h (xR h a2 2) ((i4 * (nI 7)) + i5).toNatClampNeg) &&& (lN 1)).toInt32) fun v5 =>
      G (xc h a0 = 8) <|
      G (xc h (xR h a0 1) = 16) <|
      G (gx i4 (xz h (xR h a0 1))) <|
      G (gx i4 (xz h (xR h a0 1))) <|
      LT (pI h (xR h a0 1) i4.toNatClampNeg ((xI h (xR h a0 1) i4.toNatClampNeg) ||| (v5 <<< (i5 &&& 31)))) fun h10 =>
      G (xc h10 a1 = 10) <|
      G (xc h10 (xR h10 a1 0) = 0) <|
      BN (X11_cell_f i5 i4 h10) fun v14 h13 =>
      G (xc h13 a0 = 8) <|
      BN (X8_takeRows_f a0 (xI h10 (xR h10 a1 0) 1) v14 a3 h13) fun _ h16 =>
      LT (i5 + nI 1) fun v17 =>
      X8_take_B26 k3 n a0 a1 a2 a3 i4 v17 h16
    )
theorem jX8_take_B26 (x : CT) (k3 : (Nat → Nat → Nat → Nat → Int32 → AH → Option (Unit × AH))) (hk3 : ∀ (a0 : Nat) (a1 : Nat) (a2 : Nat) (a3 : Nat) (i4 : Int32) (h : AH), J x qX8_take ZV 3 [(0, rv (zx x) a0), (1, rv (zx x) a1), (2, rv (zx x) a2), (3, rv (zx x) a3), (4, .int i4)] [] h (k3 a0 a1 a2 a3 i4 h)) : ∀ (n : Nat) (a0 : Nat) (a1 : Nat) (a2 : Nat) (a3 : Nat) (i4 : Int32) (i5 : Int32) (h : AH), J x qX8_take ZV 26 [(0, rv (zx x) a0), (1, rv (zx x) a1), (2, rv (zx x) a2), (3, rv (zx x) a3), (4, .int i4), (5, .int i5)] [] h (X8_take_B26 k3 n a0 a1 a2 a3 i4 i5 h) := by
  intro n
  induction n with
  | zero => intro a0 a1 a2 a3 i4 i5 h; exact J_none
  | succ n ih =>
    intro a0 a1 a2 a3 i4 i5 h
    unfold X8_take_B26
    refine J_iload 5 dX8_take_26 rfl ?_
    refine J_aload_n 1 dX8_take_28 rv_is rfl ?_
    refine J_G (fun g1 => ?_)
    refine J_getI kc_10 1 (by decide) rfl rfl kw_2_18 dX8_take_29 g1 ?_
    refine J_icmp_gt (tgt := 93) dX8_take_32 rfl ?_ ?_
    · exact J_sub [0, 1, 2, 3, 4] rfl (jX8_take_B93 x k3 hk3 a0 a1 a2 a3 i4 h)
    · refine J_aload_n 2 dX8_take_35 rv_is rfl ?_
      refine J_G (fun g2 => ?_)
      refine J_getR kc_3 2 (by decide) rfl rfl kw_2_120 dX8_take_36 g2 ?_
      refine J_iload 4 dX8_take_39 rfl ?_
      refine J_bipush (v := nI 7) dX8_take_41 rfl ?_
      refine J_imul dX8_take_43 ?_
      refine J_iload 5 dX8_take_44 rfl ?_
      refine J_iadd dX8_take_46 ?_
      refine J_G (fun g3 => ?_)
      refine J_G (fun g4 => ?_)
      refine J_lald dX8_take_47 g3 g4 ?_
      refine J_lconst (v := lN 1) dX8_take_48 rfl ?_
      refine J_land dX8_take_49 ?_
      refine J_l2i dX8_take_50 ?_
      refine J_LTi (fun v5 => ?_)
      refine J_istore dX8_take_51 (by decide) (SD.a (lvr := [(0, rv (zx x) a0), (1, rv (zx x) a1), (2, rv (zx x) a2), (3, rv (zx x) a3), (4, .int i4), (5, .int i5)]) [0, 1, 2, 3, 4, 5] rfl rfl) ?_
      refine J_aload_n 1 dX8_take_53 rv_is rfl ?_
      refine J_G (fun g6 => ?_)
      refine J_getR kc_8 1 (by decide) rfl rfl kw_2_142 dX8_take_54 g6 ?_
      refine J_iload 5 dX8_take_57 rfl ?_
      refine J_dup2 dX8_take_59 rfl rv_cat ?_
      refine J_G (fun g7 => ?_)
      refine J_G (fun g8 => ?_)
      refine J_iald dX8_take_60 g7 g8 ?_
      refine J_iload 0 dX8_take_61 rfl ?_
      refine J_iload 6 dX8_take_63 rfl ?_
      refine J_ishl dX8_take_65 ?_
      refine J_ior dX8_take_66 ?_
      refine J_G (fun g9 => ?_)
      refine J_iast dX8_take_67 g7 g9 ?_
      refine J_LTh (fun h10 => ?_)
      refine J_aload_n 1 dX8_take_68 rv_is rfl ?_
      refine J_aload_n 2 dX8_take_69 rv_is rfl ?_
      refine J_G (fun g11 => ?_)
      refine J_getR kc_10 0 (by decide) rfl rfl kw_2_14 dX8_take_70 g11 ?_
      refine J_G (fun g12 => ?_)
      refine J_getI kc_0 1 (by decide) rfl rfl kw_1_110 dX8_take_73 g12 ?_
      refine J_iload 6 dX8_take_76 rfl ?_
      refine J_iload 5 dX8_take_78 rfl ?_
      refine J.callSN (n := 2) (As := [.int i5, .int i4]) (ctX11_cell (lx x) (wx x) i5 i4 h10) kw_4_149 kn_6 kw_4_148 kw_1_1 (by decide +kernel) rfl (by decide) (by simp [rv_cat, cat_I, cat_L, cat_S]) rfl dX8_take_80 (fun v14 h13 => ?_)
      show J x _ _ 83 _ [.int v14, .int (xI h10 (xR h10 a1 0) 1), rv (zx x) a0] h13 _
      refine J_aload_n 4 dX8_take_83 rv_is rfl ?_
      refine J_G (fun g15 => ?_)
      refine J.callV (n := 3) (As := [.int (xI h10 (xR h10 a1 0) 1), .int v14, rv (zx x) a3]) kc_8 (ctX8_takeRows (lx x) (wx x) a0 (xI h10 (xR h10 a1 0) 1) v14 a3 h13) kw_4_198 kw_4_195 kw_4_196 kw_4_197 kw_1_10 (by decide +kernel) rfl (by decide) (Nat.zero_le _) rfl dX8_take_84 g15 (fun _ h16 => ?_)
      show J x _ _ 87 _ [] h16 _
      refine J_iincL (u := i5 + nI 1) 6 dX8_take_87 rfl rfl (by decide) (SD.a (lvr := [(0, rv (zx x) a0), (1, rv (zx x) a1), (2, rv (zx x) a2), (3, rv (zx x) a3), (4, .int i4)]) [1, 2, 3, 4, 5] rfl rfl) (fun v17 => ?_)
      refine J_goto (tgt := 26) dX8_take_90 rfl ?_
      exact J_sub [1, 2, 3, 4, 5, 0] rfl (ih a0 a1 a2 a3 i4 v17 h16)
def X8_take_B3 : Nat → Nat → Nat → Nat → Nat → Int32 → AH → Option (Unit × AH)
  | 0, _, _, _, _, _, _ => none
  | n + 1, a0, a1, a2, a3, i4, h =>
    G (xc h a1 = 10) <|
    G (xc h (xR h a1 0) = 0) <|
    if (xI h (xR h a1 0) 0) ≤ i4 then (
      X8_take_B99 a0 a1 a2 a3 h
    ) else (
      G (xc h a0 = 8) <|
      G (xc h (xR h a0 1) = 16) <|
      G (gx i4 (xz h (xR h a0 1))) <|
      LT (pI h (xR h a0 1) i4.toNatClampNeg (nI 0)) fun h6 =>
      X8_take_B26 (X8_take_B3 n) FU a0 a1 a2 a3 i4 (nI 0) h6
    )
theorem jX8_take_B3 (x : CT) : ∀ (n : Nat) (a0 : Nat) (a1 : Nat) (a2 : Nat) (a3 : Nat) (i4 : Int32) (h : AH), J x qX8_take ZV 3 [(0, rv (zx x) a0), (1, rv (zx x) a1), (2, rv (zx x) a2), (3, rv (zx x) a3), (4, .int i4)] [] h (X8_take_B3 n a0 a1 a2 a3 i4 h) := by
  intro n
  induction n with
  | zero => intro a0 a1 a2 a3 i4 h; exact J_none
  | succ n ih =>
    intro a0 a1 a2 a3 i4 h
    unfold X8_take_B3
    refine J_iload 4 dX8_take_3 rfl ?_
    refine J_aload_n 1 dX8_take_5 rv_is rfl ?_
    refine J_G (fun g1 => ?_)
    refine J_getR kc_10 0 (by decide) rfl rfl kw_2_14 dX8_take_6 g1 ?_
    refine J_G (fun g2 => ?_)
    refine J_getI kc_0 0 (by decide) rfl rfl kw_1_104 dX8_take_9 g2 ?_
    refine J_icmp_ge (tgt := 99) dX8_take_12 rfl ?_ ?_
    · exact J_sub [0, 1, 2, 3] rfl (jX8_take_B99 x a0 a1 a2 a3 h)
    · refine J_aload_n 0 dX8_take_15 rv_is rfl ?_
      refine J_G (fun g3 => ?_)
      refine J_getR kc_8 1 (by decide) rfl rfl kw_2_142 dX8_take_16 g3 ?_
      refine J_iload 4 dX8_take_19 rfl ?_
      refine J_iconst (v := nI 0) dX8_take_21 rfl ?_
      refine J_G (fun g4 => ?_)
      refine J_G (fun g5 => ?_)
      refine J_iast dX8_take_22 g4 g5 ?_
      refine J_LTh (fun h6 => ?_)
      refine J_iconst (v := nI 0) dX8_take_23 rfl ?_
      refine J_istore dX8_take_24 (by decide) (SD.a (lvr := [(0, rv (zx x) a0), (1, rv (zx x) a1), (2, rv (zx x) a2), (3, rv (zx x) a3), (4, .int i4)]) [0, 1, 2, 3, 4] rfl rfl) ?_
      exact J_sub [1, 2, 3, 4, 5, 0] rfl (jX8_take_B26 x (X8_take_B3 n) ih FU a0 a1 a2 a3 i4 (nI 0) h6)
def X8_take_f (a0 : Nat) (a1 : Nat) (a2 : Nat) (a3 : Nat) (h : AH) : Option (Unit × AH) :=
  X8_take_B3 FU a0 a1 a2 a3 (nI 0) h
theorem jX8_take (x : CT) (a0 : Nat) (a1 : Nat) (a2 : Nat) (a3 : Nat) (h : AH) : J x qX8_take ZV 0 [(0, rv (zx x) a0), (1, rv (zx x) a1), (2, rv (zx x) a2), (3, rv (zx x) a3)] [] h (X8_take_f a0 a1 a2 a3 h) := by
  unfold X8_take_f
  refine J_iconst (v := nI 0) dX8_take_0 rfl ?_
  refine J_istore dX8_take_1 (by decide) (SD.c (lvr := [(0, rv (zx x) a0), (1, rv (zx x) a1), (2, rv (zx x) a2), (3, rv (zx x) a3)]) [0, 1, 2, 3] rfl rfl 3 rfl rfl rv_cat) ?_
  exact J_sub [1, 2, 3, 4, 0] rfl (jX8_take_B3 x FU a0 a1 a2 a3 (nI 0) h)
theorem ctX8_take (l : Launch) (w : WT) (a0 : Nat) (a1 : Nat) (a2 : Nat) (a3 : Nat) (h : AH) : CM l w yX8_take cX8_take 7 none 2 51 KV [rv (w.1) a0, rv (w.1) a1, rv (w.1) a2, rv (w.1) a3] h (X8_take_f a0 a1 a2 a3 h) :=
  CM.of (by decide +kernel) (by simp [lg_sl, rv_cat, cat_I, cat_L, cat_S]) (lv := [(0, rv (w.1) a0), (1, rv (w.1) a1), (2, rv (w.1) a2), (3, rv (w.1) a3)]) (by simp [lv_args, rv_cat, cat_I, cat_L, cat_S]) (fun x hx => by subst hx; exact jX8_take x a0 a1 a2 a3 h)
-- FallTrials$Trace.listReasons(LFallTrials$Works;III)V
abbrev qX8_listReasons : MT := (cX8_listReasons, RX8, "listReasons", none, 2, 51, 8)
def X8_listReasons_B226 (k171 : (Nat → Nat → Int32 → Int32 → Int32 → Int32 → AH → Option (Unit × AH))) (a0 : Nat) (a1 : Nat) (i2 : Int32) (i3 : Int32) (i4 : Int32) (i6 : Int32) (h : AH) : Option (Unit × AH) :=
  LT (i6 + nI 1) fun v1 =>
  k171 a0 a1 i2 i3 i4 v1 h
theorem jX8_listReasons_B226 (x : CT) (k171 : (Nat → Nat → Int32 → Int32 → Int32 → Int32 → AH → Option (Unit × AH))) (hk171 : ∀ (a0 : Nat) (a1 : Nat) (i2 : Int32) (i3 : Int32) (i4 : Int32) (i6 : Int32) (h : AH), J x qX8_listReasons ZV 171 [(0, rv (zx x) a0), (1, rv (zx x) a1), (2, .int i2), (3, .int i3), (4, .int i4), (6, .int i6)] [] h (k171 a0 a1 i2 i3 i4 i6 h)) (a0 : Nat) (a1 : Nat) (i2 : Int32) (i3 : Int32) (i4 : Int32) (i6 : Int32) (h : AH) : J x qX8_listReasons ZV 226 [(0, rv (zx x) a0), (1, rv (zx x) a1), (2, .int i2), (3, .int i3), (4, .int i4), (6, .int i6)] [] h (X8_listReasons_B226 k171 a0 a1 i2 i3 i4 i6 h) := by
  unfold X8_listReasons_B226
  refine J_iincL (u := i6 + nI 1) 5 dX8_listReasons_226 rfl rfl (by decide) (SD.a (lvr := [(0, rv (zx x) a0), (1, rv (zx x) a1), (2, .int i2), (3, .int i3), (4, .int i4)]) [0, 1, 2, 3, 4] rfl rfl) (fun v1 => ?_)
  refine J_goto (tgt := 171) dX8_listReasons_229 rfl ?_
  exact J_sub [1, 2, 3, 4, 5, 0] rfl (hk171 a0 a1 i2 i3 i4 v1 h)
def X8_listReasons_B171 : Nat → Nat → Nat → Int32 → Int32 → Int32 → Int32 → AH → Option (Unit × AH)
  | 0, _, _, _, _, _, _, _ => none
  | n + 1, a0, a1, i2, i3, i4, i6, h =>
    G (xc h a1 = 10) <|
    G (xc h (xR h a1 0) = 0) <|
    if (xI h (xR h a1 0) 3) ≤ i6 then (
      some ((), h)
    ) else (
      G (xc h a1 = 10) <|
      G (xc h (xR h a1 0) = 0) <|
      G (xc h (xR h (xR h a1 0) 10) = 20) <|
      G (gx i6 (xz h (xR h (xR h a1 0) 10))) <|
      LT (xR h (xR h (xR h a1 0) 10) i6.toNatClampNeg) fun r7 =>
      G (xc h r7 = 1) <|
      if (xI h r7 3) = i2 then (
        G (xc h a0 = 8) <|
        BN (X8_bringsNow_f a0 r7 i3 i4 h) fun v11 h10 =>
        if v11 = 0 then (
          X8_listReasons_B226 (X8_listReasons_B171 n) a0 a1 i2 i3 i4 i6 h10
        ) else (
          G (xc h10 a0 = 8) <|
          BN (X8_addReason_f a0 ((nI 4000) + i6) h10) fun _ h13 =>
          X8_listReasons_B226 (X8_listReasons_B171 n) a0 a1 i2 i3 i4 i6 h13
        )
      ) else (
        X8_listReasons_B226 (X8_listReasons_B171 n) a0 a1 i2 i3 i4 i6 h
      )
    )
theorem jX8_listReasons_B171 (x : CT) : ∀ (n : Nat) (a0 : Nat) (a1 : Nat) (i2 : Int32) (i3 : Int32) (i4 : Int32) (i6 : Int32) (h : AH), J x qX8_listReasons ZV 171 [(0, rv (zx x) a0), (1, rv (zx x) a1), (2, .int i2), (3, .int i3), (4, .int i4), (6, .int i6)] [] h (X8_listReasons_B171 n a0 a1 i2 i3 i4 i6 h) := by
  intro n
  induction n with
  | zero => intro a0 a1 i2 i3 i4 i6 h; exact J_none
  | succ n ih =>
    intro a0 a1 i2 i3 i4 i6 h
    unfold X8_listReasons_B171
    refine J_iload 5 dX8_listReasons_171 rfl ?_
    refine J_aload_n 1 dX8_listReasons_173 rv_is rfl ?_
    refine J_G (fun g1 => ?_)
    refine J_getR kc_10 0 (by decide) rfl rfl kw_2_14 dX8_listReasons_174 g1 ?_
    refine J_G (fun g2 => ?_)
    refine J_getI kc_0 3 (by decide) rfl rfl kw_1_122 dX8_listReasons_177 g2 ?_
    refine J_icmp_ge (tgt := 232) dX8_listReasons_180 rfl ?_ ?_
    · exact J_vret dX8_listReasons_232
    · refine J_aload_n 1 dX8_listReasons_183 rv_is rfl ?_
      refine J_G (fun g3 => ?_)
      refine J_getR kc_10 0 (by decide) rfl rfl kw_2_14 dX8_listReasons_184 g3 ?_
      refine J_G (fun g4 => ?_)
      refine J_getR kc_0 10 (by decide) rfl rfl kw_1_143 dX8_listReasons_187 g4 ?_
      refine J_iload 5 dX8_listReasons_190 rfl ?_
      refine J_G (fun g5 => ?_)
      refine J_G (fun g6 => ?_)
      refine J_aald (t := 20) (t0 := 4) (Cn := RX1) (by decide) (by decide) (fun _ => rfl) dX8_listReasons_192 g5 g6 ?_
      refine J_LTr (fun r7 => ?_)
      refine J_astore rv_is dX8_listReasons_193 (by decide) (SD.a (lvr := [(0, rv (zx x) a0), (1, rv (zx x) a1), (2, .int i2), (3, .int i3), (4, .int i4), (6, .int i6)]) [0, 1, 2, 3, 4, 5] rfl rfl) ?_
      refine J_aload 0 dX8_listReasons_195 rv_is rfl ?_
      refine J_G (fun g8 => ?_)
      refine J_getI kc_1 3 (by decide) rfl rfl kw_1_62 dX8_listReasons_197 g8 ?_
      refine J_iload_n 3 dX8_listReasons_200 rfl ?_
      refine J_icmp_ne (tgt := 226) dX8_listReasons_201 rfl ?_ ?_
      · exact J_sub [1, 2, 3, 4, 5, 6] rfl (jX8_listReasons_B226 x (X8_listReasons_B171 n) ih a0 a1 i2 i3 i4 i6 h)
      · refine J_aload_n 1 dX8_listReasons_204 rv_is rfl ?_
        refine J_aload 0 dX8_listReasons_205 rv_is rfl ?_
        refine J_iload_n 4 dX8_listReasons_207 rfl ?_
        refine J_iload 5 dX8_listReasons_208 rfl ?_
        refine J_G (fun g9 => ?_)
        refine J.callV (n := 3) (As := [rv (zx x) r7, .int i3, .int i4]) kc_8 (ctX8_bringsNow (lx x) (wx x) a0 r7 i3 i4 h) kw_5_18 kw_5_15 kw_5_16 kw_5_17 kw_1_10 (by decide +kernel) rfl (by decide) (Nat.zero_le _) rfl dX8_listReasons_210 g9 (fun v11 h10 => ?_)
        show J x _ _ 213 _ [.int v11] h10 _
        refine J_if_eq (tgt := 226) dX8_listReasons_213 rfl ?_ ?_
        · exact J_sub [1, 2, 3, 4, 5, 6] rfl (jX8_listReasons_B226 x (X8_listReasons_B171 n) ih a0 a1 i2 i3 i4 i6 h10)
        · refine J_aload_n 1 dX8_listReasons_216 rv_is rfl ?_
          refine J_sipush (v := nI 4000) dX8_listReasons_217 rfl ?_
          refine J_iload 6 dX8_listReasons_220 rfl ?_
          refine J_iadd dX8_listReasons_222 ?_
          refine J_G (fun g12 => ?_)
          refine J.callV (n := 1) (As := [.int ((nI 4000) + i6)]) kc_8 (ctX8_addReason (lx x) (wx x) a0 ((nI 4000) + i6) h10) kw_4_236 kw_4_233 kw_4_234 kw_4_235 kw_1_10 (by decide +kernel) rfl (by decide) (Nat.zero_le _) rfl dX8_listReasons_223 g12 (fun _ h13 => ?_)
          show J x _ _ 226 _ [] h13 _
          exact J_sub [1, 2, 3, 4, 5, 6] rfl (jX8_listReasons_B226 x (X8_listReasons_B171 n) ih a0 a1 i2 i3 i4 i6 h13)
def X8_listReasons_B168 (a0 : Nat) (a1 : Nat) (i2 : Int32) (i3 : Int32) (i4 : Int32) (h : AH) : Option (Unit × AH) :=
  X8_listReasons_B171 FU a0 a1 i2 i3 i4 (nI 0) h
theorem jX8_listReasons_B168 (x : CT) (a0 : Nat) (a1 : Nat) (i2 : Int32) (i3 : Int32) (i4 : Int32) (h : AH) : J x qX8_listReasons ZV 168 [(0, rv (zx x) a0), (1, rv (zx x) a1), (2, .int i2), (3, .int i3), (4, .int i4)] [] h (X8_listReasons_B168 a0 a1 i2 i3 i4 h) := by
  unfold X8_listReasons_B168
  refine J_iconst (v := nI 0) dX8_listReasons_168 rfl ?_
  refine J_istore dX8_listReasons_169 (by decide) (SD.a (lvr := [(0, rv (zx x) a0), (1, rv (zx x) a1), (2, .int i2), (3, .int i3), (4, .int i4)]) [0, 1, 2, 3, 4] rfl rfl) ?_
  exact J_sub [1, 2, 3, 4, 5, 0] rfl (jX8_listReasons_B171 x FU a0 a1 i2 i3 i4 (nI 0) h)
def X8_listReasons_B162 (k107 : (Nat → Nat → Int32 → Int32 → Int32 → Int32 → AH → Option (Unit × AH))) (a0 : Nat) (a1 : Nat) (i2 : Int32) (i3 : Int32) (i4 : Int32) (i6 : Int32) (h : AH) : Option (Unit × AH) :=
  LT (i6 + nI 1) fun v1 =>
  k107 a0 a1 i2 i3 i4 v1 h
theorem jX8_listReasons_B162 (x : CT) (k107 : (Nat → Nat → Int32 → Int32 → Int32 → Int32 → AH → Option (Unit × AH))) (hk107 : ∀ (a0 : Nat) (a1 : Nat) (i2 : Int32) (i3 : Int32) (i4 : Int32) (i6 : Int32) (h : AH), J x qX8_listReasons ZV 107 [(0, rv (zx x) a0), (1, rv (zx x) a1), (2, .int i2), (3, .int i3), (4, .int i4), (6, .int i6)] [] h (k107 a0 a1 i2 i3 i4 i6 h)) (a0 : Nat) (a1 : Nat) (i2 : Int32) (i3 : Int32) (i4 : Int32) (i6 : Int32) (h : AH) : J x qX8_listReasons ZV 162 [(0, rv (zx x) a0), (1, rv (zx x) a1), (2, .int i2), (3, .int i3), (4, .int i4), (6, .int i6)] [] h (X8_listReasons_B162 k107 a0 a1 i2 i3 i4 i6 h) := by
  unfold X8_listReasons_B162
  refine J_iincL (u := i6 + nI 1) 5 dX8_listReasons_162 rfl rfl (by decide) (SD.a (lvr := [(0, rv (zx x) a0), (1, rv (zx x) a1), (2, .int i2), (3, .int i3), (4, .int i4)]) [0, 1, 2, 3, 4] rfl rfl) (fun v1 => ?_)
  refine J_goto (tgt := 107) dX8_listReasons_165 rfl ?_
  exact J_sub [1, 2, 3, 4, 5, 0] rfl (hk107 a0 a1 i2 i3 i4 v1 h)
def X8_listReasons_B107 : Nat → Nat → Nat → Int32 → Int32 → Int32 → Int32 → AH → Option (Unit × AH)
  | 0, _, _, _, _, _, _, _ => none
  | n + 1, a0, a1, i2, i3, i4, i6, h =>
    G (xc h a1 = 10) <|
    G (xc h (xR h a1 0) = 0) <|
    if (xI h (xR h a1 0) 3) ≤ i6 then (
      X8_listReasons_B168 a0 a1 i2 i3 i4 h
    ) else (
      G (xc h a1 = 10) <|
      G (xc h (xR h a1 0) = 0) <|
      G (xc h (xR h (xR h a1 0) 10) = 20) <|
      G (gx i6 (xz h (xR h (xR h a1 0) 10))) <|
      LT (xR h (xR h (xR h a1 0) 10) i6.toNatClampNeg) fun r7 =>
      G (xc h r7 = 1) <|
      if (xI h r7 3) = i2 then (
        G (xc h a0 = 8) <|
        BN (X8_bringsNext_f a0 r7 i3 i4 h) fun v11 h10 =>
        if v11 = 0 then (
          X8_listReasons_B162 (X8_listReasons_B107 n) a0 a1 i2 i3 i4 i6 h10
        ) else (
          G (xc h10 a0 = 8) <|
          BN (X8_addReason_f a0 ((nI 3000) + i6) h10) fun _ h13 =>
          X8_listReasons_B162 (X8_listReasons_B107 n) a0 a1 i2 i3 i4 i6 h13
        )
      ) else (
        X8_listReasons_B162 (X8_listReasons_B107 n) a0 a1 i2 i3 i4 i6 h
      )
    )
theorem jX8_listReasons_B107 (x : CT) : ∀ (n : Nat) (a0 : Nat) (a1 : Nat) (i2 : Int32) (i3 : Int32) (i4 : Int32) (i6 : Int32) (h : AH), J x qX8_listReasons ZV 107 [(0, rv (zx x) a0), (1, rv (zx x) a1), (2, .int i2), (3, .int i3), (4, .int i4), (6, .int i6)] [] h (X8_listReasons_B107 n a0 a1 i2 i3 i4 i6 h) := by
  intro n
  induction n with
  | zero => intro a0 a1 i2 i3 i4 i6 h; exact J_none
  | succ n ih =>
    intro a0 a1 i2 i3 i4 i6 h
    unfold X8_listReasons_B107
    refine J_iload 5 dX8_listReasons_107 rfl ?_
    refine J_aload_n 1 dX8_listReasons_109 rv_is rfl ?_
    refine J_G (fun g1 => ?_)
    refine J_getR kc_10 0 (by decide) rfl rfl kw_2_14 dX8_listReasons_110 g1 ?_
    refine J_G (fun g2 => ?_)
    refine J_getI kc_0 3 (by decide) rfl rfl kw_1_122 dX8_listReasons_113 g2 ?_
    refine J_icmp_ge (tgt := 168) dX8_listReasons_116 rfl ?_ ?_
    · exact J_sub [0, 1, 2, 3, 4] rfl (jX8_listReasons_B168 x a0 a1 i2 i3 i4 h)
    · refine J_aload_n 1 dX8_listReasons_119 rv_is rfl ?_
      refine J_G (fun g3 => ?_)
      refine J_getR kc_10 0 (by decide) rfl rfl kw_2_14 dX8_listReasons_120 g3 ?_
      refine J_G (fun g4 => ?_)
      refine J_getR kc_0 10 (by decide) rfl rfl kw_1_143 dX8_listReasons_123 g4 ?_
      refine J_iload 5 dX8_listReasons_126 rfl ?_
      refine J_G (fun g5 => ?_)
      refine J_G (fun g6 => ?_)
      refine J_aald (t := 20) (t0 := 4) (Cn := RX1) (by decide) (by decide) (fun _ => rfl) dX8_listReasons_128 g5 g6 ?_
      refine J_LTr (fun r7 => ?_)
      refine J_astore rv_is dX8_listReasons_129 (by decide) (SD.a (lvr := [(0, rv (zx x) a0), (1, rv (zx x) a1), (2, .int i2), (3, .int i3), (4, .int i4), (6, .int i6)]) [0, 1, 2, 3, 4, 5] rfl rfl) ?_
      refine J_aload 0 dX8_listReasons_131 rv_is rfl ?_
      refine J_G (fun g8 => ?_)
      refine J_getI kc_1 3 (by decide) rfl rfl kw_1_62 dX8_listReasons_133 g8 ?_
      refine J_iload_n 3 dX8_listReasons_136 rfl ?_
      refine J_icmp_ne (tgt := 162) dX8_listReasons_137 rfl ?_ ?_
      · exact J_sub [1, 2, 3, 4, 5, 6] rfl (jX8_listReasons_B162 x (X8_listReasons_B107 n) ih a0 a1 i2 i3 i4 i6 h)
      · refine J_aload_n 1 dX8_listReasons_140 rv_is rfl ?_
        refine J_aload 0 dX8_listReasons_141 rv_is rfl ?_
        refine J_iload_n 4 dX8_listReasons_143 rfl ?_
        refine J_iload 5 dX8_listReasons_144 rfl ?_
        refine J_G (fun g9 => ?_)
        refine J.callV (n := 3) (As := [rv (zx x) r7, .int i3, .int i4]) kc_8 (ctX8_bringsNext (lx x) (wx x) a0 r7 i3 i4 h) kw_5_13 kw_5_10 kw_5_11 kw_5_12 kw_1_10 (by decide +kernel) rfl (by decide) (Nat.zero_le _) rfl dX8_listReasons_146 g9 (fun v11 h10 => ?_)
        show J x _ _ 149 _ [.int v11] h10 _
        refine J_if_eq (tgt := 162) dX8_listReasons_149 rfl ?_ ?_
        · exact J_sub [1, 2, 3, 4, 5, 6] rfl (jX8_listReasons_B162 x (X8_listReasons_B107 n) ih a0 a1 i2 i3 i4 i6 h10)
        · refine J_aload_n 1 dX8_listReasons_152 rv_is rfl ?_
          refine J_sipush (v := nI 3000) dX8_listReasons_153 rfl ?_
          refine J_iload 6 dX8_listReasons_156 rfl ?_
          refine J_iadd dX8_listReasons_158 ?_
          refine J_G (fun g12 => ?_)
          refine J.callV (n := 1) (As := [.int ((nI 3000) + i6)]) kc_8 (ctX8_addReason (lx x) (wx x) a0 ((nI 3000) + i6) h10) kw_4_236 kw_4_233 kw_4_234 kw_4_235 kw_1_10 (by decide +kernel) rfl (by decide) (Nat.zero_le _) rfl dX8_listReasons_159 g12 (fun _ h13 => ?_)
          show J x _ _ 162 _ [] h13 _
          exact J_sub [1, 2, 3, 4, 5, 6] rfl (jX8_listReasons_B162 x (X8_listReasons_B107 n) ih a0 a1 i2 i3 i4 i6 h13)
def X8_listReasons_B104 (a0 : Nat) (a1 : Nat) (i2 : Int32) (i3 : Int32) (i4 : Int32) (h : AH) : Option (Unit × AH) :=
  X8_listReasons_B107 FU a0 a1 i2 i3 i4 (nI 0) h
theorem jX8_listReasons_B104 (x : CT) (a0 : Nat) (a1 : Nat) (i2 : Int32) (i3 : Int32) (i4 : Int32) (h : AH) : J x qX8_listReasons ZV 104 [(0, rv (zx x) a0), (1, rv (zx x) a1), (2, .int i2), (3, .int i3), (4, .int i4)] [] h (X8_listReasons_B104 a0 a1 i2 i3 i4 h) := by
  unfold X8_listReasons_B104
  refine J_iconst (v := nI 0) dX8_listReasons_104 rfl ?_
  refine J_istore dX8_listReasons_105 (by decide) (SD.a (lvr := [(0, rv (zx x) a0), (1, rv (zx x) a1), (2, .int i2), (3, .int i3), (4, .int i4)]) [0, 1, 2, 3, 4] rfl rfl) ?_
  exact J_sub [1, 2, 3, 4, 5, 0] rfl (jX8_listReasons_B107 x FU a0 a1 i2 i3 i4 (nI 0) h)
def X8_listReasons_B45 (a0 : Nat) (a1 : Nat) (i2 : Int32) (i3 : Int32) (i4 : Int32) (h : AH) : Option (Unit × AH) :=
  G (xc h a1 = 10) <|
  G (xc h a0 = 8) <|
  BN (X8_listWords_f a0 (xR h a1 0) i2 i3 i4 h) fun _ h3 =>
  G (xc h3 a0 = 8) <|
  BN (X8_tickAhead_f a0 i3 i4 h3) fun v6 h5 =>
  G (xc h5 a1 = 10) <|
  if (((xI h5 a1 3) >>> (i2 &&& 31)) &&& (nI 1)) = 0 then (
    X8_listReasons_B104 a0 a1 i2 i3 i4 h5
  ) else (
    if v6 = (-1) then (
      X8_listReasons_B104 a0 a1 i2 i3 i4 h5
    ) else (
      G (xc h5 a0 = 8) <|
      BN (X8_isThere_f a0 i2 i3 v6 h5) fun v10 h9 =>
      if v10 = 0 then (
        X8_listReasons_B104 a0 a1 i2 i3 i4 h9
      ) else (
        G (xc h9 a0 = 8) <|
        BN (X8_addReason_f a0 ((nI 2000) + v6) h9) fun _ h12 =>
        X8_listReasons_B104 a0 a1 i2 i3 i4 h12
      )
    )
  )
theorem jX8_listReasons_B45 (x : CT) (a0 : Nat) (a1 : Nat) (i2 : Int32) (i3 : Int32) (i4 : Int32) (h : AH) : J x qX8_listReasons ZV 45 [(0, rv (zx x) a0), (1, rv (zx x) a1), (2, .int i2), (3, .int i3), (4, .int i4)] [] h (X8_listReasons_B45 a0 a1 i2 i3 i4 h) := by
  unfold X8_listReasons_B45
  refine J_aload_n 0 dX8_listReasons_45 rv_is rfl ?_
  refine J_aload_n 1 dX8_listReasons_46 rv_is rfl ?_
  refine J_G (fun g1 => ?_)
  refine J_getR kc_10 0 (by decide) rfl rfl kw_2_14 dX8_listReasons_47 g1 ?_
  refine J_iload_n 2 dX8_listReasons_50 rfl ?_
  refine J_iload_n 3 dX8_listReasons_51 rfl ?_
  refine J_iload 4 dX8_listReasons_52 rfl ?_
  refine J_G (fun g2 => ?_)
  refine J.callV (n := 4) (As := [rv (zx x) (xR h a1 0), .int i2, .int i3, .int i4]) kc_8 (ctX8_listWords (lx x) (wx x) a0 (xR h a1 0) i2 i3 i4 h) kw_5_0 kw_4_237 kw_4_238 kw_4_239 kw_1_10 (by decide +kernel) rfl (by decide) (Nat.zero_le _) rfl dX8_listReasons_54 g2 (fun _ h3 => ?_)
  show J x _ _ 57 _ [] h3 _
  refine J_aload_n 0 dX8_listReasons_57 rv_is rfl ?_
  refine J_iload_n 3 dX8_listReasons_58 rfl ?_
  refine J_iload 4 dX8_listReasons_59 rfl ?_
  refine J_G (fun g4 => ?_)
  refine J.callV (n := 2) (As := [.int i3, .int i4]) kc_8 (ctX8_tickAhead (lx x) (wx x) a0 i3 i4 h3) kw_5_8 kw_5_5 kw_5_6 kw_5_7 kw_1_10 (by decide +kernel) rfl (by decide) (Nat.zero_le _) rfl dX8_listReasons_61 g4 (fun v6 h5 => ?_)
  show J x _ _ 64 _ [.int v6] h5 _
  refine J_istore dX8_listReasons_64 (by decide) (SD.a (lvr := [(0, rv (zx x) a0), (1, rv (zx x) a1), (2, .int i2), (3, .int i3), (4, .int i4)]) [0, 1, 2, 3, 4] rfl rfl) ?_
  refine J_aload_n 2 dX8_listReasons_66 rv_is rfl ?_
  refine J_G (fun g7 => ?_)
  refine J_getI kc_10 3 (by decide) rfl rfl kw_2_32 dX8_listReasons_67 g7 ?_
  refine J_iload_n 3 dX8_listReasons_70 rfl ?_
  refine J_ishr dX8_listReasons_71 ?_
  refine J_iconst (v := nI 1) dX8_listReasons_72 rfl ?_
  refine J_iand dX8_listReasons_73 ?_
  refine J_if_eq (tgt := 104) dX8_listReasons_74 rfl ?_ ?_
  · exact J_sub [1, 2, 3, 4, 5] rfl (jX8_listReasons_B104 x a0 a1 i2 i3 i4 h5)
  · refine J_iload 0 dX8_listReasons_77 rfl ?_
    refine J_iconst (v := (-1)) dX8_listReasons_79 rfl ?_
    refine J_icmp_eq (tgt := 104) dX8_listReasons_80 rfl ?_ ?_
    · exact J_sub [1, 2, 3, 4, 5] rfl (jX8_listReasons_B104 x a0 a1 i2 i3 i4 h5)
    · refine J_aload_n 1 dX8_listReasons_83 rv_is rfl ?_
      refine J_iload_n 3 dX8_listReasons_84 rfl ?_
      refine J_iload_n 4 dX8_listReasons_85 rfl ?_
      refine J_iload 0 dX8_listReasons_86 rfl ?_
      refine J_G (fun g8 => ?_)
      refine J.callV (n := 3) (As := [.int i2, .int i3, .int v6]) kc_8 (ctX8_isThere (lx x) (wx x) a0 i2 i3 v6 h5) kw_4_223 kw_5_9 kw_4_221 kw_4_222 kw_1_10 (by decide +kernel) rfl (by decide) (Nat.zero_le _) rfl dX8_listReasons_88 g8 (fun v10 h9 => ?_)
      show J x _ _ 91 _ [.int v10] h9 _
      refine J_if_eq (tgt := 104) dX8_listReasons_91 rfl ?_ ?_
      · exact J_sub [1, 2, 3, 4, 5] rfl (jX8_listReasons_B104 x a0 a1 i2 i3 i4 h9)
      · refine J_aload_n 1 dX8_listReasons_94 rv_is rfl ?_
        refine J_sipush (v := nI 2000) dX8_listReasons_95 rfl ?_
        refine J_iload 0 dX8_listReasons_98 rfl ?_
        refine J_iadd dX8_listReasons_100 ?_
        refine J_G (fun g11 => ?_)
        refine J.callV (n := 1) (As := [.int ((nI 2000) + v6)]) kc_8 (ctX8_addReason (lx x) (wx x) a0 ((nI 2000) + v6) h9) kw_4_236 kw_4_233 kw_4_234 kw_4_235 kw_1_10 (by decide +kernel) rfl (by decide) (Nat.zero_le _) rfl dX8_listReasons_101 g11 (fun _ h12 => ?_)
        show J x _ _ 104 _ [] h12 _
        exact J_sub [1, 2, 3, 4, 5] rfl (jX8_listReasons_B104 x a0 a1 i2 i3 i4 h12)
def X8_listReasons_f (a0 : Nat) (a1 : Nat) (i2 : Int32) (i3 : Int32) (i4 : Int32) (h : AH) : Option (Unit × AH) :=
  G (xc h a0 = 8) <|
  LT (pI h a0 5 (nI 0)) fun h2 =>
  G (xc h2 a0 = 8) <|
  BN (X8_isDown_f a0 i3 i4 h2) fun v5 h4 =>
  if v5 = 0 then (
    if i4 = 0 then (
      G (xc h4 a1 = 10) <|
      G (xc h4 (xR h4 a1 0) = 0) <|
      BN (X0_factsAt_f (xR h4 a1 0) i3 (xI h4 a1 2) h4) fun v9 h8 =>
      if ((v9 >>> (i2 &&& 31)) &&& (nI 1)) = 0 then (
        X8_listReasons_B45 a0 a1 i2 i3 i4 h8
      ) else (
        G (xc h8 a0 = 8) <|
        BN (X8_addReason_f a0 (nI 0) h8) fun _ h11 =>
        X8_listReasons_B45 a0 a1 i2 i3 i4 h11
      )
    ) else (
      X8_listReasons_B45 a0 a1 i2 i3 i4 h4
    )
  ) else (
    some ((), h4)
  )
theorem jX8_listReasons (x : CT) (a0 : Nat) (a1 : Nat) (i2 : Int32) (i3 : Int32) (i4 : Int32) (h : AH) : J x qX8_listReasons ZV 0 [(0, rv (zx x) a0), (1, rv (zx x) a1), (2, .int i2), (3, .int i3), (4, .int i4)] [] h (X8_listReasons_f a0 a1 i2 i3 i4 h) := by
  unfold X8_listReasons_f
  refine J_aload_n 0 dX8_listReasons_0 rv_is rfl ?_
  refine J_iconst (v := nI 0) dX8_listReasons_1 rfl ?_
  refine J_G (fun g1 => ?_)
  refine J_putI kc_8 5 (by decide) rfl rfl rfl rfl (Or.inl rfl) kw_2_148 dX8_listReasons_2 g1 ?_
  refine J_LTh (fun h2 => ?_)
  refine J_aload_n 0 dX8_listReasons_5 rv_is rfl ?_
  refine J_iload_n 3 dX8_listReasons_6 rfl ?_
  refine J_iload 4 dX8_listReasons_7 rfl ?_
  refine J_G (fun g3 => ?_)
  refine J.callV (n := 2) (As := [.int i3, .int i4]) kc_8 (ctX8_isDown (lx x) (wx x) a0 i3 i4 h2) kw_4_211 kw_4_208 kw_4_209 kw_4_210 kw_1_10 (by decide +kernel) rfl (by decide) (Nat.zero_le _) rfl dX8_listReasons_9 g3 (fun v5 h4 => ?_)
  show J x _ _ 12 _ [.int v5] h4 _
  refine J_if_eq (tgt := 16) dX8_listReasons_12 rfl ?_ ?_
  · refine J_iload 4 dX8_listReasons_16 rfl ?_
    refine J_if_ne (tgt := 45) dX8_listReasons_18 rfl ?_ ?_
    · exact (jX8_listReasons_B45 x a0 a1 i2 i3 i4 h4)
    · refine J_aload_n 1 dX8_listReasons_21 rv_is rfl ?_
      refine J_G (fun g6 => ?_)
      refine J_getR kc_10 0 (by decide) rfl rfl kw_2_14 dX8_listReasons_22 g6 ?_
      refine J_iload_n 3 dX8_listReasons_25 rfl ?_
      refine J_aload_n 1 dX8_listReasons_26 rv_is rfl ?_
      refine J_getI kc_10 2 (by decide) rfl rfl kw_2_27 dX8_listReasons_27 g6 ?_
      refine J_G (fun g7 => ?_)
      refine J.callV (n := 2) (As := [.int i3, .int (xI h4 a1 2)]) kc_0 (ctX0_factsAt (lx x) (wx x) (xR h4 a1 0) i3 (xI h4 a1 2) h4) kw_4_153 kw_4_232 kw_4_151 kw_4_152 kw_1_2 (by decide +kernel) rfl (by decide) (Nat.zero_le _) rfl dX8_listReasons_30 g7 (fun v9 h8 => ?_)
      show J x _ _ 33 _ [.int v9] h8 _
      refine J_iload_n 2 dX8_listReasons_33 rfl ?_
      refine J_ishr dX8_listReasons_34 ?_
      refine J_iconst (v := nI 1) dX8_listReasons_35 rfl ?_
      refine J_iand dX8_listReasons_36 ?_
      refine J_if_eq (tgt := 45) dX8_listReasons_37 rfl ?_ ?_
      · exact (jX8_listReasons_B45 x a0 a1 i2 i3 i4 h8)
      · refine J_aload_n 0 dX8_listReasons_40 rv_is rfl ?_
        refine J_iconst (v := nI 0) dX8_listReasons_41 rfl ?_
        refine J_G (fun g10 => ?_)
        refine J.callV (n := 1) (As := [.int (nI 0)]) kc_8 (ctX8_addReason (lx x) (wx x) a0 (nI 0) h8) kw_4_236 kw_4_233 kw_4_234 kw_4_235 kw_1_10 (by decide +kernel) rfl (by decide) (Nat.zero_le _) rfl dX8_listReasons_42 g10 (fun _ h11 => ?_)
        show J x _ _ 45 _ [] h11 _
        exact (jX8_listReasons_B45 x a0 a1 i2 i3 i4 h11)
  · exact J_vret dX8_listReasons_15
theorem ctX8_listReasons (l : Launch) (w : WT) (a0 : Nat) (a1 : Nat) (i2 : Int32) (i3 : Int32) (i4 : Int32) (h : AH) : CM l w yX8_listReasons cX8_listReasons 8 none 2 51 KV [rv (w.1) a0, rv (w.1) a1, .int i2, .int i3, .int i4] h (X8_listReasons_f a0 a1 i2 i3 i4 h) :=
  CM.of (by decide +kernel) (by simp [lg_sl, rv_cat, cat_I, cat_L, cat_S]) (lv := [(0, rv (w.1) a0), (1, rv (w.1) a1), (2, .int i2), (3, .int i3), (4, .int i4)]) (by simp [lv_args, rv_cat, cat_I, cat_L, cat_S]) (fun x hx => by subst hx; exact jX8_listReasons x a0 a1 i2 i3 i4 h)
-- FallTrials$Trace.linkBehind(LFallTrials$Works;I)I
abbrev qX8_linkBehind : MT := (cX8_linkBehind, RX8, "linkBehind", (some .int), 3, 78, 8)
def X8_linkBehind_f (a0 : Nat) (a1 : Nat) (i2 : Int32) (h : AH) : Option (Int32 × AH) :=
  LT (i2 / (nI 1000)) fun v1 =>
  LT ((i2 / (nI 100)) - (i2 / (nI 100)) / (nI 10) * (nI 10)) fun v2 =>
  LT (i2 - i2 / (nI 100) * (nI 100)) fun v3 =>
  G (xc h a0 = 8) <|
  BN (X8_listReasons_f a0 a1 v3 v2 v1 h) fun _ h5 =>
  G (xc h5 a0 = 8) <|
  if (xI h5 a0 5) = 0 then (
    some ((-1), h5)
  ) else (
    G (xc h5 a0 = 8) <|
    G (xc h5 (xR h5 a0 4) = 16) <|
    G (gx (nI 0) (xz h5 (xR h5 a0 4))) <|
    LT ((xI h5 (xR h5 a0 4) (nI 0).toNatClampNeg) - (xI h5 (xR h5 a0 4) (nI 0).toNatClampNeg) / (nI 1000) * (nI 1000)) fun v10 =>
    G (gx (nI 0) (xz h5 (xR h5 a0 4))) <|
    if (((xI h5 (xR h5 a0 4) (nI 0).toNatClampNeg) / (nI 1000)) * (nI 1000)) = nI 1000 then (
      G (xc h5 a1 = 10) <|
      G (xc h5 (xR h5 a1 0) = 0) <|
      G (xc h5 (xR h5 (xR h5 a1 0) 11) = 20) <|
      G (gx (v10 / (nI 10)) (xz h5 (xR h5 (xR h5 a1 0) 11))) <|
      LT (xR h5 (xR h5 (xR h5 a1 0) 11) (v10 / (nI 10)).toNatClampNeg) fun r16 =>
      G (xc h5 a0 = 8) <|
      BN (X8_caseTick_f a0 (v10 / (nI 10)) (v10 - v10 / (nI 10) * (nI 10)) h5) fun v19 h18 =>
      G (xc h18 r16 = 1) <|
      BN (X8_leastLink_f v19 (xI h18 r16 6) (xI h18 r16 4) h18) fun v22 h21 =>
      some (v22, h21)
    ) else (
    if (((xI h5 (xR h5 a0 4) (nI 0).toNatClampNeg) / (nI 1000)) * (nI 1000)) = nI 2000 then (
      BN (X8_linkOf_f v10 v2 v3 h5) fun v25 h24 =>
      some (v25, h24)
    ) else (
    if (((xI h5 (xR h5 a0 4) (nI 0).toNatClampNeg) / (nI 1000)) * (nI 1000)) = nI 3000 then (
      G (xc h5 a1 = 10) <|
      G (xc h5 (xR h5 a1 0) = 0) <|
      G (xc h5 (xR h5 (xR h5 a1 0) 10) = 20) <|
      G (gx v10 (xz h5 (xR h5 (xR h5 a1 0) 10))) <|
      G (xc h5 (xR h5 (xR h5 (xR h5 a1 0) 10) v10.toNatClampNeg) = 1) <|
      BN (X8_leastLink_f (v1 - (nI 1)) v2 (xI h5 (xR h5 (xR h5 (xR h5 a1 0) 10) v10.toNatClampNeg) 4) h5) fun v33 h32 =>
      some (v33, h32)
    ) else (
    if (((xI h5 (xR h5 a0 4) (nI 0).toNatClampNeg) / (nI 1000)) * (nI 1000)) = nI 4000 then (
      G (xc h5 a1 = 10) <|
      G (xc h5 (xR h5 a1 0) = 0) <|
      G (xc h5 (xR h5 (xR h5 a1 0) 10) = 20) <|
      G (gx v10 (xz h5 (xR h5 (xR h5 a1 0) 10))) <|
      G (xc h5 (xR h5 (xR h5 (xR h5 a1 0) 10) v10.toNatClampNeg) = 1) <|
      BN (X8_leastLink_f v1 v2 (xI h5 (xR h5 (xR h5 (xR h5 a1 0) 10) v10.toNatClampNeg) 4) h5) fun v41 h40 =>
      some (v41, h40)
    ) else (
    some ((-1), h5)
    ))))
  )
theorem jX8_linkBehind (x : CT) (a0 : Nat) (a1 : Nat) (i2 : Int32) (h : AH) : J x qX8_linkBehind ZI 0 [(0, rv (zx x) a0), (1, rv (zx x) a1), (2, .int i2)] [] h (X8_linkBehind_f a0 a1 i2 h) := by
  unfold X8_linkBehind_f
  refine J_iload_n 2 dX8_linkBehind_0 rfl ?_
  refine J_sipush (v := nI 1000) dX8_linkBehind_1 rfl ?_
  refine J_idiv dX8_linkBehind_4 (by decide) ?_
  refine J_LTi (fun v1 => ?_)
  refine J_istore_n dX8_linkBehind_5 (by decide) (SD.a (lvr := [(0, rv (zx x) a0), (1, rv (zx x) a1), (2, .int i2)]) [0, 1, 2] rfl rfl) ?_
  refine J_iload_n 3 dX8_linkBehind_6 rfl ?_
  refine J_bipush (v := nI 100) dX8_linkBehind_7 rfl ?_
  refine J_idiv dX8_linkBehind_9 (by decide) ?_
  refine J_bipush (v := nI 10) dX8_linkBehind_10 rfl ?_
  refine J_irem dX8_linkBehind_12 (by decide) ?_
  refine J_LTi (fun v2 => ?_)
  refine J_istore dX8_linkBehind_13 (by decide) (SD.a (lvr := [(3, .int v1), (0, rv (zx x) a0), (1, rv (zx x) a1), (2, .int i2)]) [0, 1, 2, 3] rfl rfl) ?_
  refine J_iload_n 4 dX8_linkBehind_15 rfl ?_
  refine J_bipush (v := nI 100) dX8_linkBehind_16 rfl ?_
  refine J_irem dX8_linkBehind_18 (by decide) ?_
  refine J_LTi (fun v3 => ?_)
  refine J_istore dX8_linkBehind_19 (by decide) (SD.a (lvr := [(4, .int v2), (3, .int v1), (0, rv (zx x) a0), (1, rv (zx x) a1)]) [0, 1, 2, 3] rfl rfl) ?_
  refine J_aload_n 3 dX8_linkBehind_21 rv_is rfl ?_
  refine J_aload_n 4 dX8_linkBehind_22 rv_is rfl ?_
  refine J_iload 0 dX8_linkBehind_23 rfl ?_
  refine J_iload 1 dX8_linkBehind_25 rfl ?_
  refine J_iload_n 2 dX8_linkBehind_27 rfl ?_
  refine J_G (fun g4 => ?_)
  refine J.callV (n := 4) (As := [rv (zx x) a1, .int v3, .int v2, .int v1]) kc_8 (ctX8_listReasons (lx x) (wx x) a0 a1 v3 v2 v1 h) kw_4_231 kw_6_150 kw_4_229 kw_4_230 kw_1_10 (by decide +kernel) rfl (by decide) (Nat.zero_le _) rfl dX8_linkBehind_28 g4 (fun _ h5 => ?_)
  show J x _ _ 31 _ [] h5 _
  refine J_aload_n 3 dX8_linkBehind_31 rv_is rfl ?_
  refine J_G (fun g6 => ?_)
  refine J_getI kc_8 5 (by decide) rfl rfl kw_2_148 dX8_linkBehind_32 g6 ?_
  refine J_if_ne (tgt := 40) dX8_linkBehind_35 rfl ?_ ?_
  · refine J_aload_n 3 dX8_linkBehind_40 rv_is rfl ?_
    refine J_G (fun g7 => ?_)
    refine J_getR kc_8 4 (by decide) rfl rfl kw_2_146 dX8_linkBehind_41 g7 ?_
    refine J_iconst (v := nI 0) dX8_linkBehind_44 rfl ?_
    refine J_G (fun g8 => ?_)
    refine J_G (fun g9 => ?_)
    refine J_iald dX8_linkBehind_45 g8 g9 ?_
    refine J_sipush (v := nI 1000) dX8_linkBehind_46 rfl ?_
    refine J_irem dX8_linkBehind_49 (by decide) ?_
    refine J_LTi (fun v10 => ?_)
    refine J_istore dX8_linkBehind_50 (by decide) (SD.a (lvr := [(5, .int v3), (4, .int v2), (3, .int v1), (0, rv (zx x) a0), (1, rv (zx x) a1)]) [0, 1, 2, 3, 4] rfl rfl) ?_
    refine J_aload_n 4 dX8_linkBehind_52 rv_is rfl ?_
    refine J_getR kc_8 4 (by decide) rfl rfl kw_2_146 dX8_linkBehind_53 g7 ?_
    refine J_iconst (v := nI 0) dX8_linkBehind_56 rfl ?_
    refine J_G (fun g11 => ?_)
    refine J_iald dX8_linkBehind_57 g8 g11 ?_
    refine J_sipush (v := nI 1000) dX8_linkBehind_58 rfl ?_
    refine J_idiv dX8_linkBehind_61 (by decide) ?_
    refine J_sipush (v := nI 1000) dX8_linkBehind_62 rfl ?_
    refine J_imul dX8_linkBehind_65 ?_
    refine J_lcase (c0 := nI 1000) (tgt := 108) dX8_linkBehind_66 (by decide) rfl rfl ?_ (fun n23 => ?_)
    · refine J_aload_n 5 dX8_linkBehind_108 rv_is rfl ?_
      refine J_G (fun g12 => ?_)
      refine J_getR kc_10 0 (by decide) rfl rfl kw_2_14 dX8_linkBehind_109 g12 ?_
      refine J_G (fun g13 => ?_)
      refine J_getR kc_0 11 (by decide) rfl rfl kw_1_146 dX8_linkBehind_112 g13 ?_
      refine J_iload 0 dX8_linkBehind_115 rfl ?_
      refine J_bipush (v := nI 10) dX8_linkBehind_117 rfl ?_
      refine J_idiv dX8_linkBehind_119 (by decide) ?_
      refine J_G (fun g14 => ?_)
      refine J_G (fun g15 => ?_)
      refine J_aald (t := 20) (t0 := 4) (Cn := RX1) (by decide) (by decide) (fun _ => rfl) dX8_linkBehind_120 g14 g15 ?_
      refine J_LTr (fun r16 => ?_)
      refine J_astore rv_is dX8_linkBehind_121 (by decide) (SD.a (lvr := [(6, .int v10), (0, rv (zx x) a0)]) [0, 4] rfl rfl) ?_
      refine J_aload_n 2 dX8_linkBehind_123 rv_is rfl ?_
      refine J_iload 1 dX8_linkBehind_124 rfl ?_
      refine J_bipush (v := nI 10) dX8_linkBehind_126 rfl ?_
      refine J_idiv dX8_linkBehind_128 (by decide) ?_
      refine J_iload 1 dX8_linkBehind_129 rfl ?_
      refine J_bipush (v := nI 10) dX8_linkBehind_131 rfl ?_
      refine J_irem dX8_linkBehind_133 (by decide) ?_
      refine J_G (fun g17 => ?_)
      refine J.callV (n := 2) (As := [.int (v10 / (nI 10)), .int (v10 - v10 / (nI 10) * (nI 10))]) kc_8 (ctX8_caseTick (lx x) (wx x) a0 (v10 / (nI 10)) (v10 - v10 / (nI 10) * (nI 10)) h5) kw_5_70 kw_6_151 kw_5_68 kw_5_69 kw_1_10 (by decide +kernel) rfl (by decide) (Nat.zero_le _) rfl dX8_linkBehind_134 g17 (fun v19 h18 => ?_)
      show J x _ _ 137 _ [.int v19] h18 _
      refine J_aload 0 dX8_linkBehind_137 rv_is rfl ?_
      refine J_G (fun g20 => ?_)
      refine J_getI kc_1 6 (by decide) rfl rfl kw_1_68 dX8_linkBehind_139 g20 ?_
      refine J_aload 0 dX8_linkBehind_142 rv_is rfl ?_
      refine J_getI kc_1 4 (by decide) rfl rfl kw_1_65 dX8_linkBehind_144 g20 ?_
      refine J.callS (n := 3) (As := [.int v19, .int (xI h18 r16 6), .int (xI h18 r16 4)]) (ctX8_leastLink (lx x) (wx x) v19 (xI h18 r16 6) (xI h18 r16 4) h18) kw_6_154 kw_6_152 kw_6_153 kw_1_10 (by decide +kernel) rfl (by decide) (Nat.zero_le _) rfl dX8_linkBehind_147 (fun v22 h21 => ?_)
      show J x _ _ 150 _ [.int v22] h21 _
      exact J_iret dX8_linkBehind_150
    refine J_lcase (c0 := nI 2000) (tgt := 151) dX8_linkBehind_66 (by decide) rfl rfl ?_ (fun n26 => ?_)
    · refine J_iload 0 dX8_linkBehind_151 rfl ?_
      refine J_iload 2 dX8_linkBehind_153 rfl ?_
      refine J_iload 1 dX8_linkBehind_155 rfl ?_
      refine J.callS (n := 3) (As := [.int v10, .int v2, .int v3]) (ctX8_linkOf (lx x) (wx x) v10 v2 v3 h5) kw_6_145 kw_6_143 kw_6_144 kw_1_10 (by decide +kernel) rfl (by decide) (Nat.zero_le _) rfl dX8_linkBehind_157 (fun v25 h24 => ?_)
      show J x _ _ 160 _ [.int v25] h24 _
      exact J_iret dX8_linkBehind_160
    refine J_lcase (c0 := nI 3000) (tgt := 161) dX8_linkBehind_66 (by decide) rfl rfl ?_ (fun n34 => ?_)
    · refine J_iload_n 3 dX8_linkBehind_161 rfl ?_
      refine J_iconst (v := nI 1) dX8_linkBehind_162 rfl ?_
      refine J_isub dX8_linkBehind_163 ?_
      refine J_iload 2 dX8_linkBehind_164 rfl ?_
      refine J_aload_n 5 dX8_linkBehind_166 rv_is rfl ?_
      refine J_G (fun g27 => ?_)
      refine J_getR kc_10 0 (by decide) rfl rfl kw_2_14 dX8_linkBehind_167 g27 ?_
      refine J_G (fun g28 => ?_)
      refine J_getR kc_0 10 (by decide) rfl rfl kw_1_143 dX8_linkBehind_170 g28 ?_
      refine J_iload 0 dX8_linkBehind_173 rfl ?_
      refine J_G (fun g29 => ?_)
      refine J_G (fun g30 => ?_)
      refine J_aald (t := 20) (t0 := 4) (Cn := RX1) (by decide) (by decide) (fun _ => rfl) dX8_linkBehind_175 g29 g30 ?_
      refine J_G (fun g31 => ?_)
      refine J_getI kc_1 4 (by decide) rfl rfl kw_1_65 dX8_linkBehind_176 g31 ?_
      refine J.callS (n := 3) (As := [.int (v1 - (nI 1)), .int v2, .int (xI h5 (xR h5 (xR h5 (xR h5 a1 0) 10) v10.toNatClampNeg) 4)]) (ctX8_leastLink (lx x) (wx x) (v1 - (nI 1)) v2 (xI h5 (xR h5 (xR h5 (xR h5 a1 0) 10) v10.toNatClampNeg) 4) h5) kw_6_154 kw_6_152 kw_6_153 kw_1_10 (by decide +kernel) rfl (by decide) (Nat.zero_le _) rfl dX8_linkBehind_179 (fun v33 h32 => ?_)
      show J x _ _ 182 _ [.int v33] h32 _
      exact J_iret dX8_linkBehind_182
    refine J_lcase (c0 := nI 4000) (tgt := 183) dX8_linkBehind_66 (by decide) rfl rfl ?_ (fun n42 => ?_)
    · refine J_iload_n 3 dX8_linkBehind_183 rfl ?_
      refine J_iload 2 dX8_linkBehind_184 rfl ?_
      refine J_aload_n 5 dX8_linkBehind_186 rv_is rfl ?_
      refine J_G (fun g35 => ?_)
      refine J_getR kc_10 0 (by decide) rfl rfl kw_2_14 dX8_linkBehind_187 g35 ?_
      refine J_G (fun g36 => ?_)
      refine J_getR kc_0 10 (by decide) rfl rfl kw_1_143 dX8_linkBehind_190 g36 ?_
      refine J_iload 0 dX8_linkBehind_193 rfl ?_
      refine J_G (fun g37 => ?_)
      refine J_G (fun g38 => ?_)
      refine J_aald (t := 20) (t0 := 4) (Cn := RX1) (by decide) (by decide) (fun _ => rfl) dX8_linkBehind_195 g37 g38 ?_
      refine J_G (fun g39 => ?_)
      refine J_getI kc_1 4 (by decide) rfl rfl kw_1_65 dX8_linkBehind_196 g39 ?_
      refine J.callS (n := 3) (As := [.int v1, .int v2, .int (xI h5 (xR h5 (xR h5 (xR h5 a1 0) 10) v10.toNatClampNeg) 4)]) (ctX8_leastLink (lx x) (wx x) v1 v2 (xI h5 (xR h5 (xR h5 (xR h5 a1 0) 10) v10.toNatClampNeg) 4) h5) kw_6_154 kw_6_152 kw_6_153 kw_1_10 (by decide +kernel) rfl (by decide) (Nat.zero_le _) rfl dX8_linkBehind_199 (fun v41 h40 => ?_)
      show J x _ _ 202 _ [.int v41] h40 _
      exact J_iret dX8_linkBehind_202
    refine J_ldef (tgt := 203) dX8_linkBehind_66 (by decide) ((lv_osw (a := 1000) n23 (by decide)).trans ((lv_osw (a := 2000) n26 (by decide)).trans ((lv_osw (a := 3000) n34 (by decide)).trans ((lv_osw (a := 4000) n42 (by decide)).trans (rfl))))) rfl ?_
    refine J_iconst (v := (-1)) dX8_linkBehind_203 rfl ?_
    exact J_iret dX8_linkBehind_204
  · refine J_iconst (v := (-1)) dX8_linkBehind_38 rfl ?_
    exact J_iret dX8_linkBehind_39
theorem ctX8_linkBehind (l : Launch) (w : WT) (a0 : Nat) (a1 : Nat) (i2 : Int32) (h : AH) : CM l w yX8_linkBehind cX8_linkBehind 8 (some .int) 3 78 KI [rv (w.1) a0, rv (w.1) a1, .int i2] h (X8_linkBehind_f a0 a1 i2 h) :=
  CM.of (by decide +kernel) (by simp [lg_sl, rv_cat, cat_I, cat_L, cat_S]) (lv := [(0, rv (w.1) a0), (1, rv (w.1) a1), (2, .int i2)]) (by simp [lv_args, rv_cat, cat_I, cat_L, cat_S]) (fun x hx => by subst hx; exact jX8_linkBehind x a0 a1 i2 h)
