-- FallTrialsModel.cut()I
abbrev qX15_cut : MT := (cX15_cut, RX15, "cut", (some .int), 6, 143, 4)
def X15_cut_B148 (a0 : Nat) (h : AH) : Option (Int32 × AH) :=
  G (xc h a0 = 15) <|
  BN (X15_done_f a0 (xI h a0 16) h) fun v3 h2 =>
  some (v3, h2)
theorem jX15_cut_B148 (x : CT) (a0 : Nat) (h : AH) : J x qX15_cut ZI 148 [(0, rv (zx x) a0)] [] h (X15_cut_B148 a0 h) := by
  unfold X15_cut_B148
  refine J_aload_n 0 dX15_cut_148 rv_is rfl ?_
  refine J_aload_n 0 dX15_cut_149 rv_is rfl ?_
  refine J_G (fun g1 => ?_)
  refine J_getI kc_15 16 (by decide) rfl rfl kw_6_226 dX15_cut_150 g1 ?_
  refine J.callV (n := 1) (As := [.int (xI h a0 16)]) kc_15 (ctX15_done (lx x) (wx x) a0 (xI h a0 16) h) kw_8_103 kw_8_100 kw_8_102 kp_24 kw_1_13 (by decide +kernel) rfl (by decide) (Nat.zero_le _) rfl dX15_cut_153 g1 (fun v3 h2 => ?_)
  show J x _ _ 156 _ [.int v3] h2 _
  exact J_iret dX15_cut_156
def X15_cut_B142 (k49 : (Nat → Int32 → AH → Option (Int32 × AH))) (a0 : Nat) (i1 : Int32) (h : AH) : Option (Int32 × AH) :=
  LT (i1 + (-1)) fun v1 =>
  k49 a0 v1 h
theorem jX15_cut_B142 (x : CT) (k49 : (Nat → Int32 → AH → Option (Int32 × AH))) (hk49 : ∀ (a0 : Nat) (i1 : Int32) (h : AH), J x qX15_cut ZI 49 [(0, rv (zx x) a0), (1, .int i1)] [] h (k49 a0 i1 h)) (a0 : Nat) (i1 : Int32) (h : AH) : J x qX15_cut ZI 142 [(0, rv (zx x) a0), (1, .int i1)] [] h (X15_cut_B142 k49 a0 i1 h) := by
  unfold X15_cut_B142
  refine J_iincL (u := i1 + (-1)) 1 dX15_cut_142 rfl rfl (by decide) (SD.c (lvr := [(0, rv (zx x) a0)]) [0] rfl rfl 0 rfl rfl rv_cat) (fun v1 => ?_)
  refine J_goto (tgt := 49) dX15_cut_145 rfl ?_
  exact J_sub [1, 0] rfl (hk49 a0 v1 h)
def X15_cut_B119 (k49 : (Nat → Int32 → AH → Option (Int32 × AH))) : Nat → Nat → Int32 → Int32 → Int32 → AH → Option (Int32 × AH)
  | 0, _, _, _, _, _ => none
  | n + 1, a0, i1, i2, i3, h =>
    if i2 ≤ i3 then (
      X15_cut_B142 k49 a0 i1 h
    ) else (
      G (xc h a0 = 15) <|
      G (xc h (xR h a0 46) = 16) <|
      G (gx i3 (xz h (xR h a0 46))) <|
      G (xc h (xR h a0 20) = 16) <|
      G (gx i3 (xz h (xR h a0 20))) <|
      LT (pI h (xR h a0 20) i3.toNatClampNeg (xI h (xR h a0 46) i3.toNatClampNeg)) fun h6 =>
      LT (i3 + nI 1) fun v7 =>
      X15_cut_B119 k49 n a0 i1 i2 v7 h6
    )
theorem jX15_cut_B119 (x : CT) (k49 : (Nat → Int32 → AH → Option (Int32 × AH))) (hk49 : ∀ (a0 : Nat) (i1 : Int32) (h : AH), J x qX15_cut ZI 49 [(0, rv (zx x) a0), (1, .int i1)] [] h (k49 a0 i1 h)) : ∀ (n : Nat) (a0 : Nat) (i1 : Int32) (i2 : Int32) (i3 : Int32) (h : AH), J x qX15_cut ZI 119 [(0, rv (zx x) a0), (1, .int i1), (2, .int i2), (3, .int i3)] [] h (X15_cut_B119 k49 n a0 i1 i2 i3 h) := by
  intro n
  induction n with
  | zero => intro a0 i1 i2 i3 h; exact J_none
  | succ n ih =>
    intro a0 i1 i2 i3 h
    unfold X15_cut_B119
    refine J_iload_n 3 dX15_cut_119 rfl ?_
    refine J_iload_n 2 dX15_cut_120 rfl ?_
    refine J_icmp_ge (tgt := 142) dX15_cut_121 rfl ?_ ?_
    · exact J_sub [0, 1] rfl (jX15_cut_B142 x k49 hk49 a0 i1 h)
    · refine J_aload_n 0 dX15_cut_124 rv_is rfl ?_
      refine J_G (fun g1 => ?_)
      refine J_getR kc_15 20 (by decide) rfl rfl kw_6_230 dX15_cut_125 g1 ?_
      refine J_iload_n 3 dX15_cut_128 rfl ?_
      refine J_aload_n 0 dX15_cut_129 rv_is rfl ?_
      refine J_getR kc_15 46 (by decide) rfl rfl kw_7_16 dX15_cut_130 g1 ?_
      refine J_iload_n 3 dX15_cut_133 rfl ?_
      refine J_G (fun g2 => ?_)
      refine J_G (fun g3 => ?_)
      refine J_iald dX15_cut_134 g2 g3 ?_
      refine J_G (fun g4 => ?_)
      refine J_G (fun g5 => ?_)
      refine J_iast dX15_cut_135 g4 g5 ?_
      refine J_LTh (fun h6 => ?_)
      refine J_iincL (u := i3 + nI 1) 3 dX15_cut_136 rfl rfl (by decide) (SD.a (lvr := [(0, rv (zx x) a0), (1, .int i1), (2, .int i2)]) [0, 1, 2] rfl rfl) (fun v7 => ?_)
      refine J_goto (tgt := 119) dX15_cut_139 rfl ?_
      exact J_sub [1, 2, 3, 0] rfl (ih a0 i1 i2 v7 h6)
def X15_cut_B94 (k49 : (Nat → Int32 → AH → Option (Int32 × AH))) (a0 : Nat) (i1 : Int32) (i2 : Int32) (h : AH) : Option (Int32 × AH) :=
  G (xc h a0 = 15) <|
  BN (X15_runs_f a0 (nI 2) (xR h a0 46) (nI 0) i2 h) fun v3 h2 =>
  if v3 = (nI 2) then (
    G (xc h2 a0 = 15) <|
    LT (pI h2 a0 16 i2) fun h5 =>
    X15_cut_B119 k49 FU a0 i1 i2 (nI 0) h5
  ) else (
    X15_cut_B142 k49 a0 i1 h2
  )
theorem jX15_cut_B94 (x : CT) (k49 : (Nat → Int32 → AH → Option (Int32 × AH))) (hk49 : ∀ (a0 : Nat) (i1 : Int32) (h : AH), J x qX15_cut ZI 49 [(0, rv (zx x) a0), (1, .int i1)] [] h (k49 a0 i1 h)) (a0 : Nat) (i1 : Int32) (i2 : Int32) (h : AH) : J x qX15_cut ZI 94 [(0, rv (zx x) a0), (1, .int i1), (2, .int i2)] [] h (X15_cut_B94 k49 a0 i1 i2 h) := by
  unfold X15_cut_B94
  refine J_aload_n 0 dX15_cut_94 rv_is rfl ?_
  refine J_iconst (v := nI 2) dX15_cut_95 rfl ?_
  refine J_aload_n 0 dX15_cut_96 rv_is rfl ?_
  refine J_G (fun g1 => ?_)
  refine J_getR kc_15 46 (by decide) rfl rfl kw_7_16 dX15_cut_97 g1 ?_
  refine J_iconst (v := nI 0) dX15_cut_100 rfl ?_
  refine J_iload_n 2 dX15_cut_101 rfl ?_
  refine J.callV (n := 4) (As := [.int (nI 2), rv (zx x) (xR h a0 46), .int (nI 0), .int i2]) kc_15 (ctX15_runs (lx x) (wx x) a0 (nI 2) (xR h a0 46) (nI 0) i2 h) kw_8_154 kw_8_151 kw_8_153 kp_29 kw_1_13 (by decide +kernel) rfl (by decide) (Nat.zero_le _) rfl dX15_cut_102 g1 (fun v3 h2 => ?_)
  show J x _ _ 105 _ [.int v3] h2 _
  refine J_iconst (v := nI 2) dX15_cut_105 rfl ?_
  refine J_icmp_eq (tgt := 112) dX15_cut_106 rfl ?_ ?_
  · refine J_aload_n 0 dX15_cut_112 rv_is rfl ?_
    refine J_iload_n 2 dX15_cut_113 rfl ?_
    refine J_G (fun g4 => ?_)
    refine J_putI kc_15 16 (by decide) rfl rfl rfl rfl (Or.inl rfl) kw_6_226 dX15_cut_114 g4 ?_
    refine J_LTh (fun h5 => ?_)
    refine J_iconst (v := nI 0) dX15_cut_117 rfl ?_
    refine J_istore_n dX15_cut_118 (by decide) (SD.a (lvr := [(0, rv (zx x) a0), (1, .int i1), (2, .int i2)]) [0, 1, 2] rfl rfl) ?_
    exact J_sub [1, 2, 3, 0] rfl (jX15_cut_B119 x k49 hk49 FU a0 i1 i2 (nI 0) h5)
  · refine J_goto (tgt := 142) dX15_cut_109 rfl ?_
    exact J_sub [0, 1] rfl (jX15_cut_B142 x k49 hk49 a0 i1 h2)
def X15_cut_B88 (k49 : (Nat → Int32 → AH → Option (Int32 × AH))) (k57 : (Nat → Int32 → Int32 → Int32 → AH → Option (Int32 × AH))) (a0 : Nat) (i1 : Int32) (i2 : Int32) (i3 : Int32) (h : AH) : Option (Int32 × AH) :=
  LT (i3 + nI 1) fun v1 =>
  k57 a0 i1 i2 v1 h
theorem jX15_cut_B88 (x : CT) (k49 : (Nat → Int32 → AH → Option (Int32 × AH))) (hk49 : ∀ (a0 : Nat) (i1 : Int32) (h : AH), J x qX15_cut ZI 49 [(0, rv (zx x) a0), (1, .int i1)] [] h (k49 a0 i1 h)) (k57 : (Nat → Int32 → Int32 → Int32 → AH → Option (Int32 × AH))) (hk57 : ∀ (a0 : Nat) (i1 : Int32) (i2 : Int32) (i3 : Int32) (h : AH), J x qX15_cut ZI 57 [(0, rv (zx x) a0), (1, .int i1), (2, .int i2), (3, .int i3)] [] h (k57 a0 i1 i2 i3 h)) (a0 : Nat) (i1 : Int32) (i2 : Int32) (i3 : Int32) (h : AH) : J x qX15_cut ZI 88 [(0, rv (zx x) a0), (1, .int i1), (2, .int i2), (3, .int i3)] [] h (X15_cut_B88 k49 k57 a0 i1 i2 i3 h) := by
  unfold X15_cut_B88
  refine J_iincL (u := i3 + nI 1) 3 dX15_cut_88 rfl rfl (by decide) (SD.a (lvr := [(0, rv (zx x) a0), (1, .int i1), (2, .int i2)]) [0, 1, 2] rfl rfl) (fun v1 => ?_)
  refine J_goto (tgt := 57) dX15_cut_91 rfl ?_
  exact J_sub [1, 2, 3, 0] rfl (hk57 a0 i1 i2 v1 h)
def X15_cut_B57 (k49 : (Nat → Int32 → AH → Option (Int32 × AH))) : Nat → Nat → Int32 → Int32 → Int32 → AH → Option (Int32 × AH)
  | 0, _, _, _, _, _ => none
  | n + 1, a0, i1, i2, i3, h =>
    G (xc h a0 = 15) <|
    if (xI h a0 16) ≤ i3 then (
      X15_cut_B94 k49 a0 i1 i2 h
    ) else (
      if i3 = i1 then (
        X15_cut_B88 k49 (X15_cut_B57 k49 n) a0 i1 i2 i3 h
      ) else (
        G (xc h a0 = 15) <|
        G (xc h (xR h a0 20) = 16) <|
        G (gx i3 (xz h (xR h a0 20))) <|
        G (xc h (xR h a0 46) = 16) <|
        G (gx i2 (xz h (xR h a0 46))) <|
        LT (pI h (xR h a0 46) i2.toNatClampNeg (xI h (xR h a0 20) i3.toNatClampNeg)) fun h7 =>
        LT (i2 + nI 1) fun v8 =>
        X15_cut_B88 k49 (X15_cut_B57 k49 n) a0 i1 v8 i3 h7
      )
    )
theorem jX15_cut_B57 (x : CT) (k49 : (Nat → Int32 → AH → Option (Int32 × AH))) (hk49 : ∀ (a0 : Nat) (i1 : Int32) (h : AH), J x qX15_cut ZI 49 [(0, rv (zx x) a0), (1, .int i1)] [] h (k49 a0 i1 h)) : ∀ (n : Nat) (a0 : Nat) (i1 : Int32) (i2 : Int32) (i3 : Int32) (h : AH), J x qX15_cut ZI 57 [(0, rv (zx x) a0), (1, .int i1), (2, .int i2), (3, .int i3)] [] h (X15_cut_B57 k49 n a0 i1 i2 i3 h) := by
  intro n
  induction n with
  | zero => intro a0 i1 i2 i3 h; exact J_none
  | succ n ih =>
    intro a0 i1 i2 i3 h
    unfold X15_cut_B57
    refine J_iload_n 3 dX15_cut_57 rfl ?_
    refine J_aload_n 0 dX15_cut_58 rv_is rfl ?_
    refine J_G (fun g1 => ?_)
    refine J_getI kc_15 16 (by decide) rfl rfl kw_6_226 dX15_cut_59 g1 ?_
    refine J_icmp_ge (tgt := 94) dX15_cut_62 rfl ?_ ?_
    · exact J_sub [0, 1, 2] rfl (jX15_cut_B94 x k49 hk49 a0 i1 i2 h)
    · refine J_iload_n 3 dX15_cut_65 rfl ?_
      refine J_iload_n 1 dX15_cut_66 rfl ?_
      refine J_icmp_ne (tgt := 73) dX15_cut_67 rfl ?_ ?_
      · refine J_aload_n 0 dX15_cut_73 rv_is rfl ?_
        refine J_G (fun g2 => ?_)
        refine J_getR kc_15 46 (by decide) rfl rfl kw_7_16 dX15_cut_74 g2 ?_
        refine J_iload_n 2 dX15_cut_77 rfl ?_
        refine J_aload_n 0 dX15_cut_78 rv_is rfl ?_
        refine J_getR kc_15 20 (by decide) rfl rfl kw_6_230 dX15_cut_79 g2 ?_
        refine J_iload_n 3 dX15_cut_82 rfl ?_
        refine J_G (fun g3 => ?_)
        refine J_G (fun g4 => ?_)
        refine J_iald dX15_cut_83 g3 g4 ?_
        refine J_G (fun g5 => ?_)
        refine J_G (fun g6 => ?_)
        refine J_iast dX15_cut_84 g5 g6 ?_
        refine J_LTh (fun h7 => ?_)
        refine J_iincL (u := i2 + nI 1) 2 dX15_cut_85 rfl rfl (by decide) (SD.a (lvr := [(0, rv (zx x) a0), (1, .int i1), (3, .int i3)]) [0, 1, 3] rfl rfl) (fun v8 => ?_)
        exact J_sub [1, 2, 0, 3] rfl (jX15_cut_B88 x k49 hk49 (X15_cut_B57 k49 n) ih a0 i1 v8 i3 h7)
      · refine J_goto (tgt := 88) dX15_cut_70 rfl ?_
        exact (jX15_cut_B88 x k49 hk49 (X15_cut_B57 k49 n) ih a0 i1 i2 i3 h)
def X15_cut_B49 : Nat → Nat → Int32 → AH → Option (Int32 × AH)
  | 0, _, _, _ => none
  | n + 1, a0, i1, h =>
    if i1 < 0 then (
      X15_cut_B148 a0 h
    ) else (
      X15_cut_B57 (X15_cut_B49 n) FU a0 i1 (nI 0) (nI 0) h
    )
theorem jX15_cut_B49 (x : CT) : ∀ (n : Nat) (a0 : Nat) (i1 : Int32) (h : AH), J x qX15_cut ZI 49 [(0, rv (zx x) a0), (1, .int i1)] [] h (X15_cut_B49 n a0 i1 h) := by
  intro n
  induction n with
  | zero => intro a0 i1 h; exact J_none
  | succ n ih =>
    intro a0 i1 h
    unfold X15_cut_B49
    refine J_iload_n 1 dX15_cut_49 rfl ?_
    refine J_if_lt (tgt := 148) dX15_cut_50 rfl ?_ ?_
    · exact J_sub [0] rfl (jX15_cut_B148 x a0 h)
    · refine J_iconst (v := nI 0) dX15_cut_53 rfl ?_
      refine J_istore_n dX15_cut_54 (by decide) (SD.a (lvr := [(0, rv (zx x) a0), (1, .int i1)]) [0, 1] rfl rfl) ?_
      refine J_iconst (v := nI 0) dX15_cut_55 rfl ?_
      refine J_istore_n dX15_cut_56 (by decide) (SD.a (lvr := [(2, .int (nI 0)), (0, rv (zx x) a0), (1, .int i1)]) [0, 1, 2] rfl rfl) ?_
      exact J_sub [2, 3, 1, 0] rfl (jX15_cut_B57 x (X15_cut_B49 n) ih FU a0 i1 (nI 0) (nI 0) h)
def X15_cut_f (a0 : Nat) (h : AH) : Option (Int32 × AH) :=
  G (xc h a0 = 15) <|
  LT (pI h a0 0 (nI 0)) fun h2 =>
  G (xc h2 a0 = 15) <|
  if (xR h2 a0 4) = 0 then (
    G (xc h2 a0 = 15) <|
    BN (X15_refused_f a0 (nI 1) h2) fun v14 h13 =>
    some (v14, h13)
  ) else (
    G (xc h2 a0 = 15) <|
    BN (X15_runs_f a0 (nI 0) (xR h2 a0 20) (nI 0) (xI h2 a0 16) h2) fun v6 h5 =>
    if v6 = (nI 2) then (
      G (xc h5 a0 = 15) <|
      LT ((xI h5 a0 16) - (nI 1)) fun v8 =>
      X15_cut_B49 FU a0 v8 h5
    ) else (
      G (xc h5 a0 = 15) <|
      BN (X15_refused_f a0 (nI 5) h5) fun v11 h10 =>
      some (v11, h10)
    )
  )
theorem jX15_cut (x : CT) (a0 : Nat) (h : AH) : J x qX15_cut ZI 0 [(0, rv (zx x) a0)] [] h (X15_cut_f a0 h) := by
  unfold X15_cut_f
  refine J_aload_n 0 dX15_cut_0 rv_is rfl ?_
  refine J_iconst (v := nI 0) dX15_cut_1 rfl ?_
  refine J_G (fun g1 => ?_)
  refine J_putI kc_15 0 (by decide) rfl rfl rfl rfl (Or.inl rfl) kw_6_210 dX15_cut_2 g1 ?_
  refine J_LTh (fun h2 => ?_)
  refine J_aload_n 0 dX15_cut_5 rv_is rfl ?_
  refine J_G (fun g3 => ?_)
  refine J_getR kc_15 4 (by decide) rfl rfl kw_6_214 dX15_cut_6 g3 ?_
  refine J_ifnonnull (tgt := 18) dX15_cut_9 rfl ?_ ?_
  · refine J_aload_n 0 dX15_cut_18 rv_is rfl ?_
    refine J_iconst (v := nI 0) dX15_cut_19 rfl ?_
    refine J_aload_n 0 dX15_cut_20 rv_is rfl ?_
    refine J_G (fun g4 => ?_)
    refine J_getR kc_15 20 (by decide) rfl rfl kw_6_230 dX15_cut_21 g4 ?_
    refine J_iconst (v := nI 0) dX15_cut_24 rfl ?_
    refine J_aload_n 0 dX15_cut_25 rv_is rfl ?_
    refine J_getI kc_15 16 (by decide) rfl rfl kw_6_226 dX15_cut_26 g4 ?_
    refine J.callV (n := 4) (As := [.int (nI 0), rv (zx x) (xR h2 a0 20), .int (nI 0), .int (xI h2 a0 16)]) kc_15 (ctX15_runs (lx x) (wx x) a0 (nI 0) (xR h2 a0 20) (nI 0) (xI h2 a0 16) h2) kw_8_154 kw_8_151 kw_8_153 kp_29 kw_1_13 (by decide +kernel) rfl (by decide) (Nat.zero_le _) rfl dX15_cut_29 g4 (fun v6 h5 => ?_)
    show J x _ _ 32 _ [.int v6] h5 _
    refine J_iconst (v := nI 2) dX15_cut_32 rfl ?_
    refine J_icmp_eq (tgt := 42) dX15_cut_33 rfl ?_ ?_
    · refine J_aload_n 0 dX15_cut_42 rv_is rfl ?_
      refine J_G (fun g7 => ?_)
      refine J_getI kc_15 16 (by decide) rfl rfl kw_6_226 dX15_cut_43 g7 ?_
      refine J_iconst (v := nI 1) dX15_cut_46 rfl ?_
      refine J_isub dX15_cut_47 ?_
      refine J_LTi (fun v8 => ?_)
      refine J_istore_n dX15_cut_48 (by decide) (SD.c (lvr := [(0, rv (zx x) a0)]) [0] rfl rfl 0 rfl rfl rv_cat) ?_
      exact J_sub [1, 0] rfl (jX15_cut_B49 x FU a0 v8 h5)
    · refine J_aload_n 0 dX15_cut_36 rv_is rfl ?_
      refine J_iconst (v := nI 5) dX15_cut_37 rfl ?_
      refine J_G (fun g9 => ?_)
      refine J.callV (n := 1) (As := [.int (nI 5)]) kc_15 (ctX15_refused (lx x) (wx x) a0 (nI 5) h5) kw_7_139 kw_7_136 kw_7_138 kp_8 kw_1_13 (by decide +kernel) rfl (by decide) (Nat.zero_le _) rfl dX15_cut_38 g9 (fun v11 h10 => ?_)
      show J x _ _ 41 _ [.int v11] h10 _
      exact J_iret dX15_cut_41
  · refine J_aload_n 0 dX15_cut_12 rv_is rfl ?_
    refine J_iconst (v := nI 1) dX15_cut_13 rfl ?_
    refine J_G (fun g12 => ?_)
    refine J.callV (n := 1) (As := [.int (nI 1)]) kc_15 (ctX15_refused (lx x) (wx x) a0 (nI 1) h2) kw_7_139 kw_7_136 kw_7_138 kp_8 kw_1_13 (by decide +kernel) rfl (by decide) (Nat.zero_le _) rfl dX15_cut_14 g12 (fun v14 h13 => ?_)
    show J x _ _ 17 _ [.int v14] h13 _
    exact J_iret dX15_cut_17
theorem ctX15_cut (l : Launch) (w : WT) (a0 : Nat) (h : AH) : CM l w yX15_cut cX15_cut 4 (some .int) 6 143 KI [rv (w.1) a0] h (X15_cut_f a0 h) :=
  CM.of (by decide +kernel) (by simp [lg_sl, rv_cat, cat_I, cat_L, cat_S]) (lv := [(0, rv (w.1) a0)]) (by simp [lv_args, rv_cat, cat_I, cat_L, cat_S]) (fun x hx => by subst hx; exact jX15_cut x a0 h)
-- FallTrialsModel.thin()I
abbrev qX15_thin : MT := (cX15_thin, RX15, "thin", (some .int), 6, 143, 6)
def X15_thin_B113 (a0 : Nat) (i1 : Int32) (i2 : Int32) (i3 : Int32) (h : AH) : Option (Int32 × AH) :=
  G (xc h a0 = 15) <|
  LT (pI h a0 15 i1) fun h2 =>
  if i2 = (-1) then (
    G (xc h2 a0 = 15) <|
    BN (X15_refused_f a0 (nI 6) h2) fun v10 h9 =>
    some (v10, h9)
  ) else (
    G (xc h2 a0 = 15) <|
    LT (pI h2 a0 47 i3) fun h4 =>
    G (xc h4 a0 = 15) <|
    BN (X15_done_f a0 i2 h4) fun v7 h6 =>
    some (v7, h6)
  )
theorem jX15_thin_B113 (x : CT) (a0 : Nat) (i1 : Int32) (i2 : Int32) (i3 : Int32) (h : AH) : J x qX15_thin ZI 113 [(0, rv (zx x) a0), (1, .int i1), (2, .int i2), (3, .int i3)] [] h (X15_thin_B113 a0 i1 i2 i3 h) := by
  unfold X15_thin_B113
  refine J_aload_n 0 dX15_thin_113 rv_is rfl ?_
  refine J_iload_n 1 dX15_thin_114 rfl ?_
  refine J_G (fun g1 => ?_)
  refine J_putI kc_15 15 (by decide) rfl rfl rfl rfl (Or.inl rfl) kw_6_225 dX15_thin_115 g1 ?_
  refine J_LTh (fun h2 => ?_)
  refine J_iload_n 2 dX15_thin_118 rfl ?_
  refine J_iconst (v := (-1)) dX15_thin_119 rfl ?_
  refine J_icmp_ne (tgt := 130) dX15_thin_120 rfl ?_ ?_
  · refine J_aload_n 0 dX15_thin_130 rv_is rfl ?_
    refine J_iload_n 3 dX15_thin_131 rfl ?_
    refine J_G (fun g3 => ?_)
    refine J_putI kc_15 47 (by decide) rfl rfl rfl rfl (Or.inl rfl) kw_7_17 dX15_thin_132 g3 ?_
    refine J_LTh (fun h4 => ?_)
    refine J_aload_n 0 dX15_thin_135 rv_is rfl ?_
    refine J_iload_n 2 dX15_thin_136 rfl ?_
    refine J_G (fun g5 => ?_)
    refine J.callV (n := 1) (As := [.int i2]) kc_15 (ctX15_done (lx x) (wx x) a0 i2 h4) kw_8_103 kw_8_100 kw_8_102 kp_24 kw_1_13 (by decide +kernel) rfl (by decide) (Nat.zero_le _) rfl dX15_thin_137 g5 (fun v7 h6 => ?_)
    show J x _ _ 140 _ [.int v7] h6 _
    exact J_iret dX15_thin_140
  · refine J_aload_n 0 dX15_thin_123 rv_is rfl ?_
    refine J_bipush (v := nI 6) dX15_thin_124 rfl ?_
    refine J_G (fun g8 => ?_)
    refine J.callV (n := 1) (As := [.int (nI 6)]) kc_15 (ctX15_refused (lx x) (wx x) a0 (nI 6) h2) kw_7_139 kw_7_136 kw_7_138 kp_8 kw_1_13 (by decide +kernel) rfl (by decide) (Nat.zero_le _) rfl dX15_thin_126 g8 (fun v10 h9 => ?_)
    show J x _ _ 129 _ [.int v10] h9 _
    exact J_iret dX15_thin_129
def X15_thin_B107 (k48 : (Nat → Int32 → Int32 → Int32 → Int32 → AH → Option (Int32 × AH))) (a0 : Nat) (i1 : Int32) (i2 : Int32) (i3 : Int32) (i4 : Int32) (h : AH) : Option (Int32 × AH) :=
  LT (i4 + nI 1) fun v1 =>
  k48 a0 i1 i2 i3 v1 h
theorem jX15_thin_B107 (x : CT) (k48 : (Nat → Int32 → Int32 → Int32 → Int32 → AH → Option (Int32 × AH))) (hk48 : ∀ (a0 : Nat) (i1 : Int32) (i2 : Int32) (i3 : Int32) (i4 : Int32) (h : AH), J x qX15_thin ZI 48 [(0, rv (zx x) a0), (1, .int i1), (2, .int i2), (3, .int i3), (4, .int i4)] [] h (k48 a0 i1 i2 i3 i4 h)) (a0 : Nat) (i1 : Int32) (i2 : Int32) (i3 : Int32) (i4 : Int32) (h : AH) : J x qX15_thin ZI 107 [(0, rv (zx x) a0), (1, .int i1), (2, .int i2), (3, .int i3), (4, .int i4)] [] h (X15_thin_B107 k48 a0 i1 i2 i3 i4 h) := by
  unfold X15_thin_B107
  refine J_iincL (u := i4 + nI 1) 4 dX15_thin_107 rfl rfl (by decide) (SD.a (lvr := [(0, rv (zx x) a0), (1, .int i1), (2, .int i2), (3, .int i3)]) [0, 1, 2, 3] rfl rfl) (fun v1 => ?_)
  refine J_goto (tgt := 48) dX15_thin_110 rfl ?_
  exact J_sub [1, 2, 3, 4, 0] rfl (hk48 a0 i1 i2 i3 v1 h)
def X15_thin_B48 : Nat → Nat → Int32 → Int32 → Int32 → Int32 → AH → Option (Int32 × AH)
  | 0, _, _, _, _, _, _ => none
  | n + 1, a0, i1, i2, i3, i4, h =>
    G (xc h a0 = 15) <|
    G (xc h (xR h a0 4) = 12) <|
    if ((nI 1) <<< ((xI h (xR h a0 4) 4) &&& 31)) ≤ i4 then (
      X15_thin_B113 a0 i1 i2 i3 h
    ) else (
      G (xc h a0 = 15) <|
      LT (pI h a0 15 i4) fun h4 =>
      G (xc h4 a0 = 15) <|
      BN (X15_runs_f a0 (nI 1) (xR h4 a0 20) (nI 0) (nI 0) h4) fun v7 h6 =>
      if v7 = 0 then (
        G (xc h6 a0 = 15) <|
        BN (X15_thinOf_f a0 i3 h6) fun v10 h9 =>
        if v10 = i3 then (
          X15_thin_B107 (X15_thin_B48 n) a0 i1 i2 i3 i4 h9
        ) else (
          X15_thin_B107 (X15_thin_B48 n) a0 i1 i4 v10 i4 h9
        )
      ) else (
        X15_thin_B107 (X15_thin_B48 n) a0 i1 i2 i3 i4 h6
      )
    )
theorem jX15_thin_B48 (x : CT) : ∀ (n : Nat) (a0 : Nat) (i1 : Int32) (i2 : Int32) (i3 : Int32) (i4 : Int32) (h : AH), J x qX15_thin ZI 48 [(0, rv (zx x) a0), (1, .int i1), (2, .int i2), (3, .int i3), (4, .int i4)] [] h (X15_thin_B48 n a0 i1 i2 i3 i4 h) := by
  intro n
  induction n with
  | zero => intro a0 i1 i2 i3 i4 h; exact J_none
  | succ n ih =>
    intro a0 i1 i2 i3 i4 h
    unfold X15_thin_B48
    refine J_iload 4 dX15_thin_48 rfl ?_
    refine J_iconst (v := nI 1) dX15_thin_50 rfl ?_
    refine J_aload_n 0 dX15_thin_51 rv_is rfl ?_
    refine J_G (fun g1 => ?_)
    refine J_getR kc_15 4 (by decide) rfl rfl kw_6_214 dX15_thin_52 g1 ?_
    refine J_G (fun g2 => ?_)
    refine J_getIN kc_12 4 (by decide) rfl rfl kn_28 dX15_thin_55 g2 ?_
    refine J_ishl dX15_thin_58 ?_
    refine J_icmp_ge (tgt := 113) dX15_thin_59 rfl ?_ ?_
    · exact J_sub [0, 1, 2, 3] rfl (jX15_thin_B113 x a0 i1 i2 i3 h)
    · refine J_aload_n 0 dX15_thin_62 rv_is rfl ?_
      refine J_iload 4 dX15_thin_63 rfl ?_
      refine J_G (fun g3 => ?_)
      refine J_putI kc_15 15 (by decide) rfl rfl rfl rfl (Or.inl rfl) kw_6_225 dX15_thin_65 g3 ?_
      refine J_LTh (fun h4 => ?_)
      refine J_aload_n 0 dX15_thin_68 rv_is rfl ?_
      refine J_iconst (v := nI 1) dX15_thin_69 rfl ?_
      refine J_aload_n 0 dX15_thin_70 rv_is rfl ?_
      refine J_G (fun g5 => ?_)
      refine J_getR kc_15 20 (by decide) rfl rfl kw_6_230 dX15_thin_71 g5 ?_
      refine J_iconst (v := nI 0) dX15_thin_74 rfl ?_
      refine J_iconst (v := nI 0) dX15_thin_75 rfl ?_
      refine J.callV (n := 4) (As := [.int (nI 1), rv (zx x) (xR h4 a0 20), .int (nI 0), .int (nI 0)]) kc_15 (ctX15_runs (lx x) (wx x) a0 (nI 1) (xR h4 a0 20) (nI 0) (nI 0) h4) kw_8_154 kw_8_151 kw_8_153 kp_29 kw_1_13 (by decide +kernel) rfl (by decide) (Nat.zero_le _) rfl dX15_thin_76 g5 (fun v7 h6 => ?_)
      show J x _ _ 79 _ [.int v7] h6 _
      refine J_if_eq (tgt := 85) dX15_thin_79 rfl ?_ ?_
      · refine J_aload_n 0 dX15_thin_85 rv_is rfl ?_
        refine J_iload_n 3 dX15_thin_86 rfl ?_
        refine J_G (fun g8 => ?_)
        refine J.callV (n := 1) (As := [.int i3]) kc_15 (ctX15_thinOf (lx x) (wx x) a0 i3 h6) kw_9_105 kw_9_102 kw_9_104 kp_57 kw_1_13 (by decide +kernel) rfl (by decide) (Nat.zero_le _) rfl dX15_thin_87 g8 (fun v10 h9 => ?_)
        show J x _ _ 90 _ [.int v10] h9 _
        refine J_istore dX15_thin_90 (by decide) (SD.a (lvr := [(0, rv (zx x) a0), (1, .int i1), (2, .int i2), (3, .int i3), (4, .int i4)]) [0, 1, 2, 3, 4] rfl rfl) ?_
        refine J_iload 0 dX15_thin_92 rfl ?_
        refine J_iload_n 4 dX15_thin_94 rfl ?_
        refine J_icmp_ne (tgt := 101) dX15_thin_95 rfl ?_ ?_
        · refine J_iload 5 dX15_thin_101 rfl ?_
          refine J_istore_n dX15_thin_103 (by decide) (SD.a (lvr := [(5, .int v10), (0, rv (zx x) a0), (1, .int i1), (4, .int i4)]) [0, 1, 2, 5] rfl rfl) ?_
          refine J_iload 1 dX15_thin_104 rfl ?_
          refine J_istore_n dX15_thin_106 (by decide) (SD.a (lvr := [(2, .int i4), (0, rv (zx x) a0), (1, .int i1), (4, .int i4)]) [0, 2, 3, 4] rfl rfl) ?_
          exact J_sub [2, 3, 1, 0, 4] rfl (jX15_thin_B107 x (X15_thin_B48 n) ih a0 i1 i4 v10 i4 h9)
        · refine J_goto (tgt := 107) dX15_thin_98 rfl ?_
          exact J_sub [1, 2, 3, 4, 5] rfl (jX15_thin_B107 x (X15_thin_B48 n) ih a0 i1 i2 i3 i4 h9)
      · refine J_goto (tgt := 107) dX15_thin_82 rfl ?_
        exact (jX15_thin_B107 x (X15_thin_B48 n) ih a0 i1 i2 i3 i4 h6)
def X15_thin_f (a0 : Nat) (h : AH) : Option (Int32 × AH) :=
  G (xc h a0 = 15) <|
  LT (pI h a0 0 (nI 0)) fun h2 =>
  G (xc h2 a0 = 15) <|
  if (xR h2 a0 4) = 0 then (
    G (xc h2 a0 = 15) <|
    BN (X15_refused_f a0 (nI 1) h2) fun v17 h16 =>
    some (v17, h16)
  ) else (
    G (xc h2 a0 = 15) <|
    BN (X15_isTooMany_f a0 h2) fun v6 h5 =>
    if v6 = 0 then (
      G (xc h5 a0 = 15) <|
      LT (xI h5 a0 15) fun v8 =>
      BN (X15_inPurse_f a0 h5) fun v10 h9 =>
      LT (v10 + (nI 1)) fun v11 =>
      X15_thin_B48 FU a0 v8 (-1) v11 (nI 0) h9
    ) else (
      G (xc h5 a0 = 15) <|
      BN (X15_refused_f a0 (nI 5) h5) fun v14 h13 =>
      some (v14, h13)
    )
  )
theorem jX15_thin (x : CT) (a0 : Nat) (h : AH) : J x qX15_thin ZI 0 [(0, rv (zx x) a0)] [] h (X15_thin_f a0 h) := by
  unfold X15_thin_f
  refine J_aload_n 0 dX15_thin_0 rv_is rfl ?_
  refine J_iconst (v := nI 0) dX15_thin_1 rfl ?_
  refine J_G (fun g1 => ?_)
  refine J_putI kc_15 0 (by decide) rfl rfl rfl rfl (Or.inl rfl) kw_6_210 dX15_thin_2 g1 ?_
  refine J_LTh (fun h2 => ?_)
  refine J_aload_n 0 dX15_thin_5 rv_is rfl ?_
  refine J_G (fun g3 => ?_)
  refine J_getR kc_15 4 (by decide) rfl rfl kw_6_214 dX15_thin_6 g3 ?_
  refine J_ifnonnull (tgt := 18) dX15_thin_9 rfl ?_ ?_
  · refine J_aload_n 0 dX15_thin_18 rv_is rfl ?_
    refine J_G (fun g4 => ?_)
    refine J.callV (n := 0) (As := []) kc_15 (ctX15_isTooMany (lx x) (wx x) a0 h2) kw_9_49 kw_9_46 kw_9_48 kp_52 kw_1_13 (by decide +kernel) rfl (by decide) (Nat.zero_le _) rfl dX15_thin_19 g4 (fun v6 h5 => ?_)
    show J x _ _ 22 _ [.int v6] h5 _
    refine J_if_eq (tgt := 31) dX15_thin_22 rfl ?_ ?_
    · refine J_aload_n 0 dX15_thin_31 rv_is rfl ?_
      refine J_G (fun g7 => ?_)
      refine J_getI kc_15 15 (by decide) rfl rfl kw_6_225 dX15_thin_32 g7 ?_
      refine J_LTi (fun v8 => ?_)
      refine J_istore_n dX15_thin_35 (by decide) (SD.c (lvr := [(0, rv (zx x) a0)]) [0] rfl rfl 0 rfl rfl rv_cat) ?_
      refine J_iconst (v := (-1)) dX15_thin_36 rfl ?_
      refine J_istore_n dX15_thin_37 (by decide) (SD.a (lvr := [(1, .int v8), (0, rv (zx x) a0)]) [0, 1] rfl rfl) ?_
      refine J_aload_n 2 dX15_thin_38 rv_is rfl ?_
      refine J.callV (n := 0) (As := []) kc_15 (ctX15_inPurse (lx x) (wx x) a0 h5) kw_8_134 kw_8_131 kw_8_133 kp_27 kw_1_13 (by decide +kernel) rfl (by decide) (Nat.zero_le _) rfl dX15_thin_39 g7 (fun v10 h9 => ?_)
      show J x _ _ 42 _ [.int v10] h9 _
      refine J_iconst (v := nI 1) dX15_thin_42 rfl ?_
      refine J_iadd dX15_thin_43 ?_
      refine J_LTi (fun v11 => ?_)
      refine J_istore_n dX15_thin_44 (by decide) (SD.a (lvr := [(2, .int ((-1))), (1, .int v8), (0, rv (zx x) a0)]) [0, 1, 2] rfl rfl) ?_
      refine J_iconst (v := nI 0) dX15_thin_45 rfl ?_
      refine J_istore dX15_thin_46 (by decide) (SD.a (lvr := [(3, .int v11), (2, .int ((-1))), (1, .int v8), (0, rv (zx x) a0)]) [0, 1, 2, 3] rfl rfl) ?_
      exact J_sub [4, 3, 2, 1, 0] rfl (jX15_thin_B48 x FU a0 v8 (-1) v11 (nI 0) h9)
    · refine J_aload_n 0 dX15_thin_25 rv_is rfl ?_
      refine J_iconst (v := nI 5) dX15_thin_26 rfl ?_
      refine J_G (fun g12 => ?_)
      refine J.callV (n := 1) (As := [.int (nI 5)]) kc_15 (ctX15_refused (lx x) (wx x) a0 (nI 5) h5) kw_7_139 kw_7_136 kw_7_138 kp_8 kw_1_13 (by decide +kernel) rfl (by decide) (Nat.zero_le _) rfl dX15_thin_27 g12 (fun v14 h13 => ?_)
      show J x _ _ 30 _ [.int v14] h13 _
      exact J_iret dX15_thin_30
  · refine J_aload_n 0 dX15_thin_12 rv_is rfl ?_
    refine J_iconst (v := nI 1) dX15_thin_13 rfl ?_
    refine J_G (fun g15 => ?_)
    refine J.callV (n := 1) (As := [.int (nI 1)]) kc_15 (ctX15_refused (lx x) (wx x) a0 (nI 1) h2) kw_7_139 kw_7_136 kw_7_138 kp_8 kw_1_13 (by decide +kernel) rfl (by decide) (Nat.zero_le _) rfl dX15_thin_14 g15 (fun v17 h16 => ?_)
    show J x _ _ 17 _ [.int v17] h16 _
    exact J_iret dX15_thin_17
theorem ctX15_thin (l : Launch) (w : WT) (a0 : Nat) (h : AH) : CM l w yX15_thin cX15_thin 6 (some .int) 6 143 KI [rv (w.1) a0] h (X15_thin_f a0 h) :=
  CM.of (by decide +kernel) (by simp [lg_sl, rv_cat, cat_I, cat_L, cat_S]) (lv := [(0, rv (w.1) a0)]) (by simp [lv_args, rv_cat, cat_I, cat_L, cat_S]) (fun x hx => by subst hx; exact jX15_thin x a0 h)
-- FallTrialsModel.led(I)I
abbrev qX15_led : MT := (cX15_led, RX15, "led", (some .int), 6, 143, 6)
def X15_led_B195 (a0 : Nat) (i1 : Int32) (i4 : Int32) (h : AH) : Option (Int32 × AH) :=
  if i1 < i4 then (
    G (xc h a0 = 15) <|
    LT (pI h a0 0 (nI 0)) fun h2 =>
    G (xc h2 a0 = 15) <|
    G (xc h2 (xR h2 a0 48) = 16) <|
    G (gx i1 (xz h2 (xR h2 a0 48))) <|
    some (xI h2 (xR h2 a0 48) i1.toNatClampNeg, h2)
  ) else (
    some (nI 0, h)
  )
theorem jX15_led_B195 (x : CT) (a0 : Nat) (i1 : Int32) (i4 : Int32) (h : AH) : J x qX15_led ZI 195 [(0, rv (zx x) a0), (1, .int i1), (4, .int i4)] [] h (X15_led_B195 a0 i1 i4 h) := by
  unfold X15_led_B195
  refine J_iload_n 1 dX15_led_195 rfl ?_
  refine J_iload 2 dX15_led_196 rfl ?_
  refine J_icmp_lt (tgt := 203) dX15_led_198 rfl ?_ ?_
  · refine J_aload_n 0 dX15_led_203 rv_is rfl ?_
    refine J_iconst (v := nI 0) dX15_led_204 rfl ?_
    refine J_G (fun g1 => ?_)
    refine J_putI kc_15 0 (by decide) rfl rfl rfl rfl (Or.inl rfl) kw_6_210 dX15_led_205 g1 ?_
    refine J_LTh (fun h2 => ?_)
    refine J_aload_n 0 dX15_led_208 rv_is rfl ?_
    refine J_G (fun g3 => ?_)
    refine J_getR kc_15 48 (by decide) rfl rfl kw_7_18 dX15_led_209 g3 ?_
    refine J_iload_n 1 dX15_led_212 rfl ?_
    refine J_G (fun g4 => ?_)
    refine J_G (fun g5 => ?_)
    refine J_iald dX15_led_213 g4 g5 ?_
    exact J_iret dX15_led_214
  · refine J_iconst (v := nI 0) dX15_led_201 rfl ?_
    exact J_iret dX15_led_202
def X15_led_B192 (k126 : (Nat → Int32 → Int32 → Int32 → AH → Option (Int32 × AH))) (a0 : Nat) (i1 : Int32) (i3 : Int32) (i4 : Int32) (h : AH) : Option (Int32 × AH) :=
  k126 a0 i1 i3 i4 h
theorem jX15_led_B192 (x : CT) (k126 : (Nat → Int32 → Int32 → Int32 → AH → Option (Int32 × AH))) (hk126 : ∀ (a0 : Nat) (i1 : Int32) (i3 : Int32) (i4 : Int32) (h : AH), J x qX15_led ZI 126 [(0, rv (zx x) a0), (1, .int i1), (3, .int i3), (4, .int i4)] [] h (k126 a0 i1 i3 i4 h)) (a0 : Nat) (i1 : Int32) (i3 : Int32) (i4 : Int32) (h : AH) : J x qX15_led ZI 192 [(0, rv (zx x) a0), (1, .int i1), (3, .int i3), (4, .int i4)] [] h (X15_led_B192 k126 a0 i1 i3 i4 h) := by
  unfold X15_led_B192
  refine J_goto (tgt := 126) dX15_led_192 rfl ?_
  exact (hk126 a0 i1 i3 i4 h)
def X15_led_B186 (k126 : (Nat → Int32 → Int32 → Int32 → AH → Option (Int32 × AH))) (k166 : (Nat → Int32 → Int32 → Int32 → Int32 → AH → Option (Int32 × AH))) (a0 : Nat) (i1 : Int32) (i3 : Int32) (i4 : Int32) (i5 : Int32) (h : AH) : Option (Int32 × AH) :=
  LT (i5 + nI 1) fun v1 =>
  k166 a0 i1 i3 i4 v1 h
theorem jX15_led_B186 (x : CT) (k126 : (Nat → Int32 → Int32 → Int32 → AH → Option (Int32 × AH))) (hk126 : ∀ (a0 : Nat) (i1 : Int32) (i3 : Int32) (i4 : Int32) (h : AH), J x qX15_led ZI 126 [(0, rv (zx x) a0), (1, .int i1), (3, .int i3), (4, .int i4)] [] h (k126 a0 i1 i3 i4 h)) (k166 : (Nat → Int32 → Int32 → Int32 → Int32 → AH → Option (Int32 × AH))) (hk166 : ∀ (a0 : Nat) (i1 : Int32) (i3 : Int32) (i4 : Int32) (i5 : Int32) (h : AH), J x qX15_led ZI 166 [(0, rv (zx x) a0), (1, .int i1), (3, .int i3), (4, .int i4), (5, .int i5)] [] h (k166 a0 i1 i3 i4 i5 h)) (a0 : Nat) (i1 : Int32) (i3 : Int32) (i4 : Int32) (i5 : Int32) (h : AH) : J x qX15_led ZI 186 [(0, rv (zx x) a0), (1, .int i1), (3, .int i3), (4, .int i4), (5, .int i5)] [] h (X15_led_B186 k126 k166 a0 i1 i3 i4 i5 h) := by
  unfold X15_led_B186
  refine J_iincL (u := i5 + nI 1) 4 dX15_led_186 rfl rfl (by decide) (SD.a (lvr := [(0, rv (zx x) a0), (1, .int i1), (3, .int i3), (4, .int i4)]) [0, 1, 2, 3] rfl rfl) (fun v1 => ?_)
  refine J_goto (tgt := 166) dX15_led_189 rfl ?_
  exact J_sub [1, 2, 3, 4, 0] rfl (hk166 a0 i1 i3 i4 v1 h)
def X15_led_B166 (k126 : (Nat → Int32 → Int32 → Int32 → AH → Option (Int32 × AH))) : Nat → Nat → Int32 → Int32 → Int32 → Int32 → AH → Option (Int32 × AH)
  | 0, _, _, _, _, _, _ => none
  | n + 1, a0, i1, i3, i4, i5, h =>
    if i4 ≤ i5 then (
      X15_led_B192 k126 a0 i1 i3 i4 h
    ) else (
      G (xc h a0 = 15) <|
      G (xc h (xR h a0 48) = 16) <|
      G (gx i5 (xz h (xR h a0 48))) <|
      if (xI h (xR h a0 48) i5.toNatClampNeg) = i3 then (
        X15_led_B186 k126 (X15_led_B166 k126 n) a0 i1 (-1) i4 i5 h
      ) else (
        X15_led_B186 k126 (X15_led_B166 k126 n) a0 i1 i3 i4 i5 h
      )
    )
theorem jX15_led_B166 (x : CT) (k126 : (Nat → Int32 → Int32 → Int32 → AH → Option (Int32 × AH))) (hk126 : ∀ (a0 : Nat) (i1 : Int32) (i3 : Int32) (i4 : Int32) (h : AH), J x qX15_led ZI 126 [(0, rv (zx x) a0), (1, .int i1), (3, .int i3), (4, .int i4)] [] h (k126 a0 i1 i3 i4 h)) : ∀ (n : Nat) (a0 : Nat) (i1 : Int32) (i3 : Int32) (i4 : Int32) (i5 : Int32) (h : AH), J x qX15_led ZI 166 [(0, rv (zx x) a0), (1, .int i1), (3, .int i3), (4, .int i4), (5, .int i5)] [] h (X15_led_B166 k126 n a0 i1 i3 i4 i5 h) := by
  intro n
  induction n with
  | zero => intro a0 i1 i3 i4 i5 h; exact J_none
  | succ n ih =>
    intro a0 i1 i3 i4 i5 h
    unfold X15_led_B166
    refine J_iload 4 dX15_led_166 rfl ?_
    refine J_iload 3 dX15_led_168 rfl ?_
    refine J_icmp_ge (tgt := 192) dX15_led_170 rfl ?_ ?_
    · exact J_sub [0, 1, 2, 3] rfl (jX15_led_B192 x k126 hk126 a0 i1 i3 i4 h)
    · refine J_aload_n 0 dX15_led_173 rv_is rfl ?_
      refine J_G (fun g1 => ?_)
      refine J_getR kc_15 48 (by decide) rfl rfl kw_7_18 dX15_led_174 g1 ?_
      refine J_iload 4 dX15_led_177 rfl ?_
      refine J_G (fun g2 => ?_)
      refine J_G (fun g3 => ?_)
      refine J_iald dX15_led_179 g2 g3 ?_
      refine J_iload_n 2 dX15_led_180 rfl ?_
      refine J_icmp_ne (tgt := 186) dX15_led_181 rfl ?_ ?_
      · exact (jX15_led_B186 x k126 hk126 (X15_led_B166 k126 n) ih a0 i1 i3 i4 i5 h)
      · refine J_iconst (v := (-1)) dX15_led_184 rfl ?_
        refine J_istore_n dX15_led_185 (by decide) (SD.a (lvr := [(0, rv (zx x) a0), (1, .int i1), (4, .int i4), (5, .int i5)]) [0, 1, 3, 4] rfl rfl) ?_
        exact J_sub [1, 2, 0, 3, 4] rfl (jX15_led_B186 x k126 hk126 (X15_led_B166 k126 n) ih a0 i1 (-1) i4 i5 h)
def X15_led_B126 : Nat → Nat → Int32 → Int32 → Int32 → AH → Option (Int32 × AH)
  | 0, _, _, _, _, _ => none
  | n + 1, a0, i1, i3, i4, h =>
    if i3 = (-1) then (
      X15_led_B195 a0 i1 i4 h
    ) else (
      G (xc h a0 = 15) <|
      G (xc h (xR h a0 48) = 16) <|
      G (gx i4 (xz h (xR h a0 48))) <|
      LT (pI h (xR h a0 48) i4.toNatClampNeg i3) fun h4 =>
      LT (i4 + nI 1) fun v5 =>
      G (xc h4 a0 = 15) <|
      BN (X15_leadsTo_f a0 (i3 - i3 / (nI 100) * (nI 100)) ((i3 / (nI 100)) - (i3 / (nI 100)) / (nI 10) * (nI 10)) (i3 / (nI 1000)) h4) fun v8 h7 =>
      X15_led_B166 (X15_led_B126 n) FU a0 i1 v8 v5 (nI 0) h7
    )
theorem jX15_led_B126 (x : CT) : ∀ (n : Nat) (a0 : Nat) (i1 : Int32) (i3 : Int32) (i4 : Int32) (h : AH), J x qX15_led ZI 126 [(0, rv (zx x) a0), (1, .int i1), (3, .int i3), (4, .int i4)] [] h (X15_led_B126 n a0 i1 i3 i4 h) := by
  intro n
  induction n with
  | zero => intro a0 i1 i3 i4 h; exact J_none
  | succ n ih =>
    intro a0 i1 i3 i4 h
    unfold X15_led_B126
    refine J_iload_n 2 dX15_led_126 rfl ?_
    refine J_iconst (v := (-1)) dX15_led_127 rfl ?_
    refine J_icmp_eq (tgt := 195) dX15_led_128 rfl ?_ ?_
    · exact J_sub [0, 1, 3] rfl (jX15_led_B195 x a0 i1 i4 h)
    · refine J_aload_n 0 dX15_led_131 rv_is rfl ?_
      refine J_G (fun g1 => ?_)
      refine J_getR kc_15 48 (by decide) rfl rfl kw_7_18 dX15_led_132 g1 ?_
      refine J_iload 3 dX15_led_135 rfl ?_
      refine J_iload_n 2 dX15_led_137 rfl ?_
      refine J_G (fun g2 => ?_)
      refine J_G (fun g3 => ?_)
      refine J_iast dX15_led_138 g2 g3 ?_
      refine J_LTh (fun h4 => ?_)
      refine J_iincL (u := i4 + nI 1) 3 dX15_led_139 rfl rfl (by decide) (SD.a (lvr := [(0, rv (zx x) a0), (1, .int i1), (3, .int i3)]) [0, 1, 2] rfl rfl) (fun v5 => ?_)
      refine J_aload_n 1 dX15_led_142 rv_is rfl ?_
      refine J_iload_n 3 dX15_led_143 rfl ?_
      refine J_bipush (v := nI 100) dX15_led_144 rfl ?_
      refine J_irem dX15_led_146 (by decide) ?_
      refine J_iload_n 3 dX15_led_147 rfl ?_
      refine J_bipush (v := nI 100) dX15_led_148 rfl ?_
      refine J_idiv dX15_led_150 (by decide) ?_
      refine J_bipush (v := nI 10) dX15_led_151 rfl ?_
      refine J_irem dX15_led_153 (by decide) ?_
      refine J_iload_n 3 dX15_led_154 rfl ?_
      refine J_sipush (v := nI 1000) dX15_led_155 rfl ?_
      refine J_idiv dX15_led_158 (by decide) ?_
      refine J_G (fun g6 => ?_)
      refine J.callV (n := 3) (As := [.int (i3 - i3 / (nI 100) * (nI 100)), .int ((i3 / (nI 100)) - (i3 / (nI 100)) / (nI 10) * (nI 10)), .int (i3 / (nI 1000))]) kc_15 (ctX15_leadsTo (lx x) (wx x) a0 (i3 - i3 / (nI 100) * (nI 100)) ((i3 / (nI 100)) - (i3 / (nI 100)) / (nI 10) * (nI 10)) (i3 / (nI 1000)) h4) kw_9_117 kw_9_114 kw_9_116 kp_58 kw_1_13 (by decide +kernel) rfl (by decide) (Nat.zero_le _) rfl dX15_led_159 g6 (fun v8 h7 => ?_)
      show J x _ _ 162 _ [.int v8] h7 _
      refine J_istore_n dX15_led_162 (by decide) (SD.a (lvr := [(4, .int v5), (0, rv (zx x) a0), (1, .int i1)]) [0, 1, 2] rfl rfl) ?_
      refine J_iconst (v := nI 0) dX15_led_163 rfl ?_
      refine J_istore dX15_led_164 (by decide) (SD.a (lvr := [(3, .int v8), (4, .int v5), (0, rv (zx x) a0), (1, .int i1)]) [0, 1, 2, 3] rfl rfl) ?_
      exact J_sub [3, 4, 1, 2, 0] rfl (jX15_led_B166 x (X15_led_B126 n) ih FU a0 i1 v8 v5 (nI 0) h7)
def X15_led_B123 (a0 : Nat) (i1 : Int32) (i3 : Int32) (h : AH) : Option (Int32 × AH) :=
  X15_led_B126 FU a0 i1 i3 (nI 0) h
theorem jX15_led_B123 (x : CT) (a0 : Nat) (i1 : Int32) (i3 : Int32) (h : AH) : J x qX15_led ZI 123 [(0, rv (zx x) a0), (1, .int i1), (3, .int i3)] [] h (X15_led_B123 a0 i1 i3 h) := by
  unfold X15_led_B123
  refine J_iconst (v := nI 0) dX15_led_123 rfl ?_
  refine J_istore dX15_led_124 (by decide) (SD.a (lvr := [(0, rv (zx x) a0), (1, .int i1), (3, .int i3)]) [0, 1, 2] rfl rfl) ?_
  exact J_sub [1, 2, 3, 0] rfl (jX15_led_B126 x FU a0 i1 i3 (nI 0) h)
def X15_led_B117 (k46 : (Nat → Int32 → Int32 → Int32 → AH → Option (Int32 × AH))) (a0 : Nat) (i1 : Int32) (i3 : Int32) (i4 : Int32) (h : AH) : Option (Int32 × AH) :=
  LT (i4 + (-1)) fun v1 =>
  k46 a0 i1 i3 v1 h
theorem jX15_led_B117 (x : CT) (k46 : (Nat → Int32 → Int32 → Int32 → AH → Option (Int32 × AH))) (hk46 : ∀ (a0 : Nat) (i1 : Int32) (i3 : Int32) (i4 : Int32) (h : AH), J x qX15_led ZI 46 [(0, rv (zx x) a0), (1, .int i1), (3, .int i3), (4, .int i4)] [] h (k46 a0 i1 i3 i4 h)) (a0 : Nat) (i1 : Int32) (i3 : Int32) (i4 : Int32) (h : AH) : J x qX15_led ZI 117 [(0, rv (zx x) a0), (1, .int i1), (3, .int i3), (4, .int i4)] [] h (X15_led_B117 k46 a0 i1 i3 i4 h) := by
  unfold X15_led_B117
  refine J_iincL (u := i4 + (-1)) 3 dX15_led_117 rfl rfl (by decide) (SD.a (lvr := [(0, rv (zx x) a0), (1, .int i1), (3, .int i3)]) [0, 1, 2] rfl rfl) (fun v1 => ?_)
  refine J_goto (tgt := 46) dX15_led_120 rfl ?_
  exact J_sub [1, 2, 3, 0] rfl (hk46 a0 i1 i3 v1 h)
def X15_led_B46 : Nat → Nat → Int32 → Int32 → Int32 → AH → Option (Int32 × AH)
  | 0, _, _, _, _, _ => none
  | n + 1, a0, i1, i3, i4, h =>
    if i4 < 0 then (
      X15_led_B123 a0 i1 i3 h
    ) else (
      G (xc h a0 = 15) <|
      G (xc h (xR h a0 4) = 12) <|
      G (xc h (xR h (xR h a0 4) 26) = 16) <|
      G (gx i4 (xz h (xR h (xR h a0 4) 26))) <|
      G (xc h (xR h (xR h a0 4) 27) = 16) <|
      G (gx i4 (xz h (xR h (xR h a0 4) 27))) <|
      BN (X15_isThere_f a0 (nI 0) (xI h (xR h (xR h a0 4) 26) i4.toNatClampNeg) (xI h (xR h (xR h a0 4) 27) i4.toNatClampNeg) (xI h a0 14) h) fun v8 h7 =>
      if v8 = 0 then (
        X15_led_B117 (X15_led_B46 n) a0 i1 i3 i4 h7
      ) else (
        G (xc h7 a0 = 15) <|
        G (xc h7 (xR h7 a0 4) = 12) <|
        G (xc h7 (xR h7 (xR h7 a0 4) 27) = 16) <|
        G (gx i4 (xz h7 (xR h7 (xR h7 a0 4) 27))) <|
        G (xc h7 (xR h7 (xR h7 a0 4) 26) = 16) <|
        G (gx i4 (xz h7 (xR h7 (xR h7 a0 4) 26))) <|
        LT ((((nI 1000) * (xI h7 a0 14)) + ((nI 100) * (xI h7 (xR h7 (xR h7 a0 4) 27) i4.toNatClampNeg))) + (xI h7 (xR h7 (xR h7 a0 4) 26) i4.toNatClampNeg)) fun v15 =>
        X15_led_B117 (X15_led_B46 n) a0 i1 v15 i4 h7
      )
    )
theorem jX15_led_B46 (x : CT) : ∀ (n : Nat) (a0 : Nat) (i1 : Int32) (i3 : Int32) (i4 : Int32) (h : AH), J x qX15_led ZI 46 [(0, rv (zx x) a0), (1, .int i1), (3, .int i3), (4, .int i4)] [] h (X15_led_B46 n a0 i1 i3 i4 h) := by
  intro n
  induction n with
  | zero => intro a0 i1 i3 i4 h; exact J_none
  | succ n ih =>
    intro a0 i1 i3 i4 h
    unfold X15_led_B46
    refine J_iload 3 dX15_led_46 rfl ?_
    refine J_if_lt (tgt := 123) dX15_led_48 rfl ?_ ?_
    · exact J_sub [0, 1, 2] rfl (jX15_led_B123 x a0 i1 i3 h)
    · refine J_aload_n 0 dX15_led_51 rv_is rfl ?_
      refine J_iconst (v := nI 0) dX15_led_52 rfl ?_
      refine J_aload_n 0 dX15_led_53 rv_is rfl ?_
      refine J_G (fun g1 => ?_)
      refine J_getR kc_15 4 (by decide) rfl rfl kw_6_214 dX15_led_54 g1 ?_
      refine J_G (fun g2 => ?_)
      refine J_getRN kc_12 26 (by decide) rfl rfl kn_50 dX15_led_57 g2 ?_
      refine J_iload 3 dX15_led_60 rfl ?_
      refine J_G (fun g3 => ?_)
      refine J_G (fun g4 => ?_)
      refine J_iald dX15_led_62 g3 g4 ?_
      refine J_aload_n 0 dX15_led_63 rv_is rfl ?_
      refine J_getR kc_15 4 (by decide) rfl rfl kw_6_214 dX15_led_64 g1 ?_
      refine J_getRN kc_12 27 (by decide) rfl rfl kn_51 dX15_led_67 g2 ?_
      refine J_iload 3 dX15_led_70 rfl ?_
      refine J_G (fun g5 => ?_)
      refine J_G (fun g6 => ?_)
      refine J_iald dX15_led_72 g5 g6 ?_
      refine J_aload_n 0 dX15_led_73 rv_is rfl ?_
      refine J_getI kc_15 14 (by decide) rfl rfl kw_6_224 dX15_led_74 g1 ?_
      refine J.callV (n := 4) (As := [.int (nI 0), .int (xI h (xR h (xR h a0 4) 26) i4.toNatClampNeg), .int (xI h (xR h (xR h a0 4) 27) i4.toNatClampNeg), .int (xI h a0 14)]) kc_15 (ctX15_isThere (lx x) (wx x) a0 (nI 0) (xI h (xR h (xR h a0 4) 26) i4.toNatClampNeg) (xI h (xR h (xR h a0 4) 27) i4.toNatClampNeg) (xI h a0 14) h) kw_8_213 kw_8_210 kw_8_212 kp_42 kw_1_13 (by decide +kernel) rfl (by decide) (Nat.zero_le _) rfl dX15_led_77 g1 (fun v8 h7 => ?_)
      show J x _ _ 80 _ [.int v8] h7 _
      refine J_if_eq (tgt := 117) dX15_led_80 rfl ?_ ?_
      · exact (jX15_led_B117 x (X15_led_B46 n) ih a0 i1 i3 i4 h7)
      · refine J_sipush (v := nI 1000) dX15_led_83 rfl ?_
        refine J_aload_n 0 dX15_led_86 rv_is rfl ?_
        refine J_G (fun g9 => ?_)
        refine J_getI kc_15 14 (by decide) rfl rfl kw_6_224 dX15_led_87 g9 ?_
        refine J_imul dX15_led_90 ?_
        refine J_bipush (v := nI 100) dX15_led_91 rfl ?_
        refine J_aload_n 0 dX15_led_93 rv_is rfl ?_
        refine J_getR kc_15 4 (by decide) rfl rfl kw_6_214 dX15_led_94 g9 ?_
        refine J_G (fun g10 => ?_)
        refine J_getRN kc_12 27 (by decide) rfl rfl kn_51 dX15_led_97 g10 ?_
        refine J_iload 3 dX15_led_100 rfl ?_
        refine J_G (fun g11 => ?_)
        refine J_G (fun g12 => ?_)
        refine J_iald dX15_led_102 g11 g12 ?_
        refine J_imul dX15_led_103 ?_
        refine J_iadd dX15_led_104 ?_
        refine J_aload_n 0 dX15_led_105 rv_is rfl ?_
        refine J_getR kc_15 4 (by decide) rfl rfl kw_6_214 dX15_led_106 g9 ?_
        refine J_getRN kc_12 26 (by decide) rfl rfl kn_50 dX15_led_109 g10 ?_
        refine J_iload 3 dX15_led_112 rfl ?_
        refine J_G (fun g13 => ?_)
        refine J_G (fun g14 => ?_)
        refine J_iald dX15_led_114 g13 g14 ?_
        refine J_iadd dX15_led_115 ?_
        refine J_LTi (fun v15 => ?_)
        refine J_istore_n dX15_led_116 (by decide) (SD.a (lvr := [(0, rv (zx x) a0), (1, .int i1), (4, .int i4)]) [0, 1, 3] rfl rfl) ?_
        exact J_sub [1, 2, 0, 3] rfl (jX15_led_B117 x (X15_led_B46 n) ih a0 i1 v15 i4 h7)
def X15_led_f (a0 : Nat) (i1 : Int32) (h : AH) : Option (Int32 × AH) :=
  G (xc h a0 = 15) <|
  LT (pI h a0 0 (nI 1)) fun h2 =>
  G (xc h2 a0 = 15) <|
  if (xR h2 a0 4) = 0 then (
    some (nI 0, h2)
  ) else (
    if 0 ≤ i1 then (
      G (xc h2 a0 = 15) <|
      BN (X15_runs_f a0 (nI 0) (xR h2 a0 20) (nI 0) (xI h2 a0 16) h2) fun v6 h5 =>
      G (xc h5 a0 = 15) <|
      G (xc h5 (xR h5 a0 4) = 12) <|
      LT ((xI h5 (xR h5 a0 4) 23) - (nI 1)) fun v9 =>
      X15_led_B46 FU a0 i1 (-1) v9 h5
    ) else (
      some (nI 0, h2)
    )
  )
theorem jX15_led (x : CT) (a0 : Nat) (i1 : Int32) (h : AH) : J x qX15_led ZI 0 [(0, rv (zx x) a0), (1, .int i1)] [] h (X15_led_f a0 i1 h) := by
  unfold X15_led_f
  refine J_aload_n 0 dX15_led_0 rv_is rfl ?_
  refine J_iconst (v := nI 1) dX15_led_1 rfl ?_
  refine J_G (fun g1 => ?_)
  refine J_putI kc_15 0 (by decide) rfl rfl rfl rfl (Or.inl rfl) kw_6_210 dX15_led_2 g1 ?_
  refine J_LTh (fun h2 => ?_)
  refine J_aload_n 0 dX15_led_5 rv_is rfl ?_
  refine J_G (fun g3 => ?_)
  refine J_getR kc_15 4 (by decide) rfl rfl kw_6_214 dX15_led_6 g3 ?_
  refine J_ifnull (tgt := 16) dX15_led_9 rfl ?_ ?_
  · refine J_iconst (v := nI 0) dX15_led_16 rfl ?_
    exact J_iret dX15_led_17
  · refine J_iload_n 1 dX15_led_12 rfl ?_
    refine J_if_ge (tgt := 18) dX15_led_13 rfl ?_ ?_
    · refine J_aload_n 0 dX15_led_18 rv_is rfl ?_
      refine J_iconst (v := nI 0) dX15_led_19 rfl ?_
      refine J_aload_n 0 dX15_led_20 rv_is rfl ?_
      refine J_G (fun g4 => ?_)
      refine J_getR kc_15 20 (by decide) rfl rfl kw_6_230 dX15_led_21 g4 ?_
      refine J_iconst (v := nI 0) dX15_led_24 rfl ?_
      refine J_aload_n 0 dX15_led_25 rv_is rfl ?_
      refine J_getI kc_15 16 (by decide) rfl rfl kw_6_226 dX15_led_26 g4 ?_
      refine J.callV (n := 4) (As := [.int (nI 0), rv (zx x) (xR h2 a0 20), .int (nI 0), .int (xI h2 a0 16)]) kc_15 (ctX15_runs (lx x) (wx x) a0 (nI 0) (xR h2 a0 20) (nI 0) (xI h2 a0 16) h2) kw_8_154 kw_8_151 kw_8_153 kp_29 kw_1_13 (by decide +kernel) rfl (by decide) (Nat.zero_le _) rfl dX15_led_29 g4 (fun v6 h5 => ?_)
      show J x _ _ 32 _ [.int v6] h5 _
      refine J_istore_n dX15_led_32 (by decide) (SD.a (lvr := [(0, rv (zx x) a0), (1, .int i1)]) [0, 1] rfl rfl) ?_
      refine J_iconst (v := (-1)) dX15_led_33 rfl ?_
      refine J_istore_n dX15_led_34 (by decide) (SD.a (lvr := [(0, rv (zx x) a0), (1, .int i1)]) [1, 2] rfl rfl) ?_
      refine J_aload_n 1 dX15_led_35 rv_is rfl ?_
      refine J_G (fun g7 => ?_)
      refine J_getR kc_15 4 (by decide) rfl rfl kw_6_214 dX15_led_36 g7 ?_
      refine J_G (fun g8 => ?_)
      refine J_getIN kc_12 23 (by decide) rfl rfl kn_47 dX15_led_39 g8 ?_
      refine J_iconst (v := nI 1) dX15_led_42 rfl ?_
      refine J_isub dX15_led_43 ?_
      refine J_LTi (fun v9 => ?_)
      refine J_istore dX15_led_44 (by decide) (SD.a (lvr := [(3, .int ((-1))), (0, rv (zx x) a0), (1, .int i1)]) [0, 1, 2] rfl rfl) ?_
      exact J_sub [2, 3, 1, 0] rfl (jX15_led_B46 x FU a0 i1 (-1) v9 h5)
    · refine J_iconst (v := nI 0) dX15_led_16 rfl ?_
      exact J_iret dX15_led_17
theorem ctX15_led (l : Launch) (w : WT) (a0 : Nat) (i1 : Int32) (h : AH) : CM l w yX15_led cX15_led 6 (some .int) 6 143 KI [rv (w.1) a0, .int i1] h (X15_led_f a0 i1 h) :=
  CM.of (by decide +kernel) (by simp [lg_sl, rv_cat, cat_I, cat_L, cat_S]) (lv := [(0, rv (w.1) a0), (1, .int i1)]) (by simp [lv_args, rv_cat, cat_I, cat_L, cat_S]) (fun x hx => by subst hx; exact jX15_led x a0 i1 h)
-- FallTrialsModel.isFit(I)Z
abbrev qX15_isFit : MT := (cX15_isFit, RX15, "isFit", (some .boolean), 6, 143, 7)
def X15_isFit_B97 (a0 : Nat) (i2 : Int32) (i3 : Int32) (i4 : Int32) (i5 : Int32) (h : AH) : Option (Int32 × AH) :=
  G (xc h a0 = 15) <|
  LT (pI h a0 23 i2) fun h2 =>
  G (xc h2 a0 = 15) <|
  LT (pI h2 a0 24 i3) fun h4 =>
  G (xc h4 a0 = 15) <|
  LT (pI h4 a0 25 i4) fun h6 =>
  G (bz i5) <|
  some (i5, h6)
theorem jX15_isFit_B97 (x : CT) (a0 : Nat) (i2 : Int32) (i3 : Int32) (i4 : Int32) (i5 : Int32) (h : AH) : J x qX15_isFit ZI 97 [(0, rv (zx x) a0), (2, .int i2), (3, .int i3), (4, .int i4), (5, .int i5)] [] h (X15_isFit_B97 a0 i2 i3 i4 i5 h) := by
  unfold X15_isFit_B97
  refine J_aload_n 0 dX15_isFit_97 rv_is rfl ?_
  refine J_iload_n 1 dX15_isFit_98 rfl ?_
  refine J_G (fun g1 => ?_)
  refine J_putI kc_15 23 (by decide) rfl rfl rfl rfl (Or.inl rfl) kw_6_233 dX15_isFit_99 g1 ?_
  refine J_LTh (fun h2 => ?_)
  refine J_aload_n 0 dX15_isFit_102 rv_is rfl ?_
  refine J_iload_n 2 dX15_isFit_103 rfl ?_
  refine J_G (fun g3 => ?_)
  refine J_putI kc_15 24 (by decide) rfl rfl rfl rfl (Or.inl rfl) kw_6_234 dX15_isFit_104 g3 ?_
  refine J_LTh (fun h4 => ?_)
  refine J_aload_n 0 dX15_isFit_107 rv_is rfl ?_
  refine J_iload 3 dX15_isFit_108 rfl ?_
  refine J_G (fun g5 => ?_)
  refine J_putI kc_15 25 (by decide) rfl rfl rfl rfl (Or.inl rfl) kw_6_235 dX15_isFit_110 g5 ?_
  refine J_LTh (fun h6 => ?_)
  refine J_iload 4 dX15_isFit_113 rfl ?_
  refine J_G (fun g7 => ?_)
  exact J_zret dX15_isFit_115 g7
def X15_isFit_B89 (k45 : (Nat → Int32 → Int32 → Int32 → Int32 → Int32 → AH → Option (Int32 × AH))) (a0 : Nat) (i2 : Int32) (i3 : Int32) (i4 : Int32) (i6 : Int32) (is0 : Int32) (h : AH) : Option (Int32 × AH) :=
  LT (i6 + nI 1) fun v1 =>
  k45 a0 i2 i3 i4 is0 v1 h
theorem jX15_isFit_B89 (x : CT) (k45 : (Nat → Int32 → Int32 → Int32 → Int32 → Int32 → AH → Option (Int32 × AH))) (hk45 : ∀ (a0 : Nat) (i2 : Int32) (i3 : Int32) (i4 : Int32) (i5 : Int32) (i6 : Int32) (h : AH), J x qX15_isFit ZI 45 [(0, rv (zx x) a0), (2, .int i2), (3, .int i3), (4, .int i4), (5, .int i5), (6, .int i6)] [] h (k45 a0 i2 i3 i4 i5 i6 h)) (a0 : Nat) (i2 : Int32) (i3 : Int32) (i4 : Int32) (i6 : Int32) (is0 : Int32) (h : AH) : J x qX15_isFit ZI 89 [(0, rv (zx x) a0), (2, .int i2), (3, .int i3), (4, .int i4), (6, .int i6)] [.int is0] h (X15_isFit_B89 k45 a0 i2 i3 i4 i6 is0 h) := by
  unfold X15_isFit_B89
  refine J_istore dX15_isFit_89 (by decide) (SD.a (lvr := [(0, rv (zx x) a0), (2, .int i2), (3, .int i3), (4, .int i4), (6, .int i6)]) [0, 1, 2, 3, 4] rfl rfl) ?_
  refine J_iincL (u := i6 + nI 1) 5 dX15_isFit_91 rfl rfl (by decide) (SD.a (lvr := [(5, .int is0), (0, rv (zx x) a0), (2, .int i2), (3, .int i3), (4, .int i4)]) [0, 1, 2, 3, 4] rfl rfl) (fun v1 => ?_)
  refine J_goto (tgt := 45) dX15_isFit_94 rfl ?_
  exact J_sub [2, 3, 4, 5, 1, 0] rfl (hk45 a0 i2 i3 i4 is0 v1 h)
def X15_isFit_B45 : Nat → Nat → Int32 → Int32 → Int32 → Int32 → Int32 → AH → Option (Int32 × AH)
  | 0, _, _, _, _, _, _, _ => none
  | n + 1, a0, i2, i3, i4, i5, i6, h =>
    G (xc h a0 = 15) <|
    if (xI h a0 18) ≤ i6 then (
      X15_isFit_B97 a0 i2 i3 i4 i5 h
    ) else (
      if i5 = 0 then (
        X15_isFit_B97 a0 i2 i3 i4 i5 h
      ) else (
        G (xc h a0 = 15) <|
        G (xc h (xR h a0 21) = 16) <|
        G (gx i6 (xz h (xR h a0 21))) <|
        BN (X15_runs_f a0 (nI 2) (xR h a0 22) ((nI 6) * i6) (xI h (xR h a0 21) i6.toNatClampNeg) h) fun v6 h5 =>
        if v6 = (nI 2) then (
          X15_isFit_B89 (X15_isFit_B45 n) a0 i2 i3 i4 i6 (nI 0) h5
        ) else (
          X15_isFit_B89 (X15_isFit_B45 n) a0 i2 i3 i4 i6 (nI 1) h5
        )
      )
    )
theorem jX15_isFit_B45 (x : CT) : ∀ (n : Nat) (a0 : Nat) (i2 : Int32) (i3 : Int32) (i4 : Int32) (i5 : Int32) (i6 : Int32) (h : AH), J x qX15_isFit ZI 45 [(0, rv (zx x) a0), (2, .int i2), (3, .int i3), (4, .int i4), (5, .int i5), (6, .int i6)] [] h (X15_isFit_B45 n a0 i2 i3 i4 i5 i6 h) := by
  intro n
  induction n with
  | zero => intro a0 i2 i3 i4 i5 i6 h; exact J_none
  | succ n ih =>
    intro a0 i2 i3 i4 i5 i6 h
    unfold X15_isFit_B45
    refine J_iload 5 dX15_isFit_45 rfl ?_
    refine J_aload_n 0 dX15_isFit_47 rv_is rfl ?_
    refine J_G (fun g1 => ?_)
    refine J_getI kc_15 18 (by decide) rfl rfl kw_6_228 dX15_isFit_48 g1 ?_
    refine J_icmp_ge (tgt := 97) dX15_isFit_51 rfl ?_ ?_
    · exact J_sub [0, 1, 2, 3, 4] rfl (jX15_isFit_B97 x a0 i2 i3 i4 i5 h)
    · refine J_iload 4 dX15_isFit_54 rfl ?_
      refine J_if_eq (tgt := 97) dX15_isFit_56 rfl ?_ ?_
      · exact J_sub [0, 1, 2, 3, 4] rfl (jX15_isFit_B97 x a0 i2 i3 i4 i5 h)
      · refine J_aload_n 0 dX15_isFit_59 rv_is rfl ?_
        refine J_iconst (v := nI 2) dX15_isFit_60 rfl ?_
        refine J_aload_n 0 dX15_isFit_61 rv_is rfl ?_
        refine J_G (fun g2 => ?_)
        refine J_getR kc_15 22 (by decide) rfl rfl kw_6_232 dX15_isFit_62 g2 ?_
        refine J_bipush (v := nI 6) dX15_isFit_65 rfl ?_
        refine J_iload 5 dX15_isFit_67 rfl ?_
        refine J_imul dX15_isFit_69 ?_
        refine J_aload_n 0 dX15_isFit_70 rv_is rfl ?_
        refine J_getR kc_15 21 (by decide) rfl rfl kw_6_231 dX15_isFit_71 g2 ?_
        refine J_iload 5 dX15_isFit_74 rfl ?_
        refine J_G (fun g3 => ?_)
        refine J_G (fun g4 => ?_)
        refine J_iald dX15_isFit_76 g3 g4 ?_
        refine J.callV (n := 4) (As := [.int (nI 2), rv (zx x) (xR h a0 22), .int ((nI 6) * i6), .int (xI h (xR h a0 21) i6.toNatClampNeg)]) kc_15 (ctX15_runs (lx x) (wx x) a0 (nI 2) (xR h a0 22) ((nI 6) * i6) (xI h (xR h a0 21) i6.toNatClampNeg) h) kw_8_154 kw_8_151 kw_8_153 kp_29 kw_1_13 (by decide +kernel) rfl (by decide) (Nat.zero_le _) rfl dX15_isFit_77 g2 (fun v6 h5 => ?_)
        show J x _ _ 80 _ [.int v6] h5 _
        refine J_iconst (v := nI 2) dX15_isFit_80 rfl ?_
        refine J_icmp_eq (tgt := 88) dX15_isFit_81 rfl ?_ ?_
        · refine J_iconst (v := nI 0) dX15_isFit_88 rfl ?_
          exact J_sub [0, 1, 2, 3, 5] rfl (jX15_isFit_B89 x (X15_isFit_B45 n) ih a0 i2 i3 i4 i6 (nI 0) h5)
        · refine J_iconst (v := nI 1) dX15_isFit_84 rfl ?_
          refine J_goto (tgt := 89) dX15_isFit_85 rfl ?_
          exact J_sub [0, 1, 2, 3, 5] rfl (jX15_isFit_B89 x (X15_isFit_B45 n) ih a0 i2 i3 i4 i6 (nI 1) h5)
def X15_isFit_B40 (a0 : Nat) (i2 : Int32) (i3 : Int32) (i4 : Int32) (is0 : Int32) (h : AH) : Option (Int32 × AH) :=
  X15_isFit_B45 FU a0 i2 i3 i4 is0 (nI 0) h
theorem jX15_isFit_B40 (x : CT) (a0 : Nat) (i2 : Int32) (i3 : Int32) (i4 : Int32) (is0 : Int32) (h : AH) : J x qX15_isFit ZI 40 [(0, rv (zx x) a0), (2, .int i2), (3, .int i3), (4, .int i4)] [.int is0] h (X15_isFit_B40 a0 i2 i3 i4 is0 h) := by
  unfold X15_isFit_B40
  refine J_istore dX15_isFit_40 (by decide) (SD.a (lvr := [(0, rv (zx x) a0), (2, .int i2), (3, .int i3), (4, .int i4)]) [0, 1, 2, 3] rfl rfl) ?_
  refine J_iconst (v := nI 0) dX15_isFit_42 rfl ?_
  refine J_istore dX15_isFit_43 (by decide) (SD.a (lvr := [(5, .int is0), (0, rv (zx x) a0), (2, .int i2), (3, .int i3), (4, .int i4)]) [0, 1, 2, 3, 4] rfl rfl) ?_
  exact J_sub [2, 3, 4, 5, 1, 0] rfl (jX15_isFit_B45 x FU a0 i2 i3 i4 is0 (nI 0) h)
def X15_isFit_f (a0 : Nat) (i1 : Int32) (h : AH) : Option (Int32 × AH) :=
  G (xc h a0 = 15) <|
  LT (xI h a0 23) fun v2 =>
  LT (xI h a0 24) fun v3 =>
  LT (xI h a0 25) fun v4 =>
  BN (X15_makes_f a0 i1 h) fun _ h5 =>
  G (xc h5 a0 = 15) <|
  BN (X15_runs_f a0 (nI 2) (xR h5 a0 20) (nI 0) (nI 0) h5) fun v8 h7 =>
  if v8 = 0 then (
    X15_isFit_B40 a0 v2 v3 v4 (nI 1) h7
  ) else (
    X15_isFit_B40 a0 v2 v3 v4 (nI 0) h7
  )
theorem jX15_isFit (x : CT) (a0 : Nat) (i1 : Int32) (h : AH) : J x qX15_isFit ZI 0 [(0, rv (zx x) a0), (1, .int i1)] [] h (X15_isFit_f a0 i1 h) := by
  unfold X15_isFit_f
  refine J_aload_n 0 dX15_isFit_0 rv_is rfl ?_
  refine J_G (fun g1 => ?_)
  refine J_getI kc_15 23 (by decide) rfl rfl kw_6_233 dX15_isFit_1 g1 ?_
  refine J_LTi (fun v2 => ?_)
  refine J_istore_n dX15_isFit_4 (by decide) (SD.a (lvr := [(0, rv (zx x) a0), (1, .int i1)]) [0, 1] rfl rfl) ?_
  refine J_aload_n 1 dX15_isFit_5 rv_is rfl ?_
  refine J_getI kc_15 24 (by decide) rfl rfl kw_6_234 dX15_isFit_6 g1 ?_
  refine J_LTi (fun v3 => ?_)
  refine J_istore_n dX15_isFit_9 (by decide) (SD.a (lvr := [(2, .int v2), (0, rv (zx x) a0), (1, .int i1)]) [0, 1, 2] rfl rfl) ?_
  refine J_aload_n 2 dX15_isFit_10 rv_is rfl ?_
  refine J_getI kc_15 25 (by decide) rfl rfl kw_6_235 dX15_isFit_11 g1 ?_
  refine J_LTi (fun v4 => ?_)
  refine J_istore dX15_isFit_14 (by decide) (SD.a (lvr := [(3, .int v3), (2, .int v2), (0, rv (zx x) a0), (1, .int i1)]) [0, 1, 2, 3] rfl rfl) ?_
  refine J_aload_n 3 dX15_isFit_16 rv_is rfl ?_
  refine J_iload_n 4 dX15_isFit_17 rfl ?_
  refine J.callV (n := 1) (As := [.int i1]) kc_15 (ctX15_makes (lx x) (wx x) a0 i1 h) kw_9_143 kw_9_140 kw_9_142 kp_60 kw_1_13 (by decide +kernel) rfl (by decide) (Nat.zero_le _) rfl dX15_isFit_18 g1 (fun _ h5 => ?_)
  show J x _ _ 21 _ [] h5 _
  refine J_aload_n 3 dX15_isFit_21 rv_is rfl ?_
  refine J_iconst (v := nI 2) dX15_isFit_22 rfl ?_
  refine J_aload_n 3 dX15_isFit_23 rv_is rfl ?_
  refine J_G (fun g6 => ?_)
  refine J_getR kc_15 20 (by decide) rfl rfl kw_6_230 dX15_isFit_24 g6 ?_
  refine J_iconst (v := nI 0) dX15_isFit_27 rfl ?_
  refine J_iconst (v := nI 0) dX15_isFit_28 rfl ?_
  refine J.callV (n := 4) (As := [.int (nI 2), rv (zx x) (xR h5 a0 20), .int (nI 0), .int (nI 0)]) kc_15 (ctX15_runs (lx x) (wx x) a0 (nI 2) (xR h5 a0 20) (nI 0) (nI 0) h5) kw_8_154 kw_8_151 kw_8_153 kp_29 kw_1_13 (by decide +kernel) rfl (by decide) (Nat.zero_le _) rfl dX15_isFit_29 g6 (fun v8 h7 => ?_)
  show J x _ _ 32 _ [.int v8] h7 _
  refine J_if_ne (tgt := 39) dX15_isFit_32 rfl ?_ ?_
  · refine J_iconst (v := nI 0) dX15_isFit_39 rfl ?_
    exact J_sub [3, 2, 1, 0] rfl (jX15_isFit_B40 x a0 v2 v3 v4 (nI 0) h7)
  · refine J_iconst (v := nI 1) dX15_isFit_35 rfl ?_
    refine J_goto (tgt := 40) dX15_isFit_36 rfl ?_
    exact J_sub [3, 2, 1, 0] rfl (jX15_isFit_B40 x a0 v2 v3 v4 (nI 1) h7)
theorem ctX15_isFit (l : Launch) (w : WT) (a0 : Nat) (i1 : Int32) (h : AH) : CM l w yX15_isFit cX15_isFit 7 (some .boolean) 6 143 KI [rv (w.1) a0, .int i1] h (X15_isFit_f a0 i1 h) :=
  CM.of (by decide +kernel) (by simp [lg_sl, rv_cat, cat_I, cat_L, cat_S]) (lv := [(0, rv (w.1) a0), (1, .int i1)]) (by simp [lv_args, rv_cat, cat_I, cat_L, cat_S]) (fun x hx => by subst hx; exact jX15_isFit x a0 i1 h)
