-- FallTrials$Purse.advance()Z
abbrev qX5_advance : MT := (cX5_advance, RX5, "advance", (some .boolean), 2, 44, 2)
def X5_advance_B94 (a0 : Nat) (h : AH) : Option (Int32 × AH) :=
  G (xc h a0 = 5) <|
  BN (X5_total_f a0 h) fun v3 h2 =>
  if v3 < (xI h a0 5) then (
    some (nI 0, h2)
  ) else (
    G (xc h2 a0 = 5) <|
    if (xI h2 a0 4) < (xI h2 a0 5) then (
      some (nI 0, h2)
    ) else (
      some (nI 1, h2)
    )
  )
theorem jX5_advance_B94 (x : CT) (a0 : Nat) (h : AH) : J x qX5_advance ZI 94 [(0, rv (zx x) a0)] [] h (X5_advance_B94 a0 h) := by
  unfold X5_advance_B94
  refine J_aload_n 0 dX5_advance_94 rv_is rfl ?_
  refine J_G (fun g1 => ?_)
  refine J_getI kc_5 5 (by decide) rfl rfl kw_2_83 dX5_advance_95 g1 ?_
  refine J_aload_n 0 dX5_advance_98 rv_is rfl ?_
  refine J.callV (n := 0) (As := []) kc_5 (ctX5_total (lx x) (wx x) a0 h) kw_4_85 kw_5_102 kw_4_83 kw_4_84 kw_1_8 (by decide +kernel) rfl (by decide) (by simp [rv_cat, cat_I, cat_L, cat_S]) rfl dX5_advance_99 g1 (fun v3 h2 => ?_)
  show J x _ _ 102 _ [.int v3, .int (xI h a0 5)] h2 _
  refine J_icmp_gt (tgt := 120) dX5_advance_102 rfl ?_ ?_
  · refine J_iconst (v := nI 0) dX5_advance_120 rfl ?_
    exact J_zret dX5_advance_121 (by decide)
  · refine J_aload_n 0 dX5_advance_105 rv_is rfl ?_
    refine J_G (fun g4 => ?_)
    refine J_getI kc_5 5 (by decide) rfl rfl kw_2_83 dX5_advance_106 g4 ?_
    refine J_aload_n 0 dX5_advance_109 rv_is rfl ?_
    refine J_getI kc_5 4 (by decide) rfl rfl kw_2_82 dX5_advance_110 g4 ?_
    refine J_icmp_gt (tgt := 120) dX5_advance_113 rfl ?_ ?_
    · refine J_iconst (v := nI 0) dX5_advance_120 rfl ?_
      exact J_zret dX5_advance_121 (by decide)
    · refine J_iconst (v := nI 1) dX5_advance_116 rfl ?_
      refine J_goto (tgt := 121) dX5_advance_117 rfl ?_
      exact J_zret dX5_advance_121 (by decide)
def X5_advance_B66 : Nat → Nat → Int32 → AH → Option (Int32 × AH)
  | 0, _, _, _ => none
  | n + 1, a0, i1, h =>
    G (xc h a0 = 5) <|
    if ((xI h a0 5) - (nI 1)) ≤ i1 then (
      X5_advance_B94 a0 h
    ) else (
      if (nI 3) ≤ i1 then (
        X5_advance_B94 a0 h
      ) else (
        G (xc h a0 = 5) <|
        G (xc h (xR h a0 2) = 16) <|
        G (gx i1 (xz h (xR h a0 2))) <|
        LT (pI h (xR h a0 2) i1.toNatClampNeg i1) fun h5 =>
        LT (i1 + nI 1) fun v6 =>
        X5_advance_B66 n a0 v6 h5
      )
    )
theorem jX5_advance_B66 (x : CT) : ∀ (n : Nat) (a0 : Nat) (i1 : Int32) (h : AH), J x qX5_advance ZI 66 [(0, rv (zx x) a0), (1, .int i1)] [] h (X5_advance_B66 n a0 i1 h) := by
  intro n
  induction n with
  | zero => intro a0 i1 h; exact J_none
  | succ n ih =>
    intro a0 i1 h
    unfold X5_advance_B66
    refine J_iload_n 1 dX5_advance_66 rfl ?_
    refine J_aload_n 0 dX5_advance_67 rv_is rfl ?_
    refine J_G (fun g1 => ?_)
    refine J_getI kc_5 5 (by decide) rfl rfl kw_2_83 dX5_advance_68 g1 ?_
    refine J_iconst (v := nI 1) dX5_advance_71 rfl ?_
    refine J_isub dX5_advance_72 ?_
    refine J_icmp_ge (tgt := 94) dX5_advance_73 rfl ?_ ?_
    · exact J_sub [0] rfl (jX5_advance_B94 x a0 h)
    · refine J_iload_n 1 dX5_advance_76 rfl ?_
      refine J_iconst (v := nI 3) dX5_advance_77 rfl ?_
      refine J_icmp_ge (tgt := 94) dX5_advance_78 rfl ?_ ?_
      · exact J_sub [0] rfl (jX5_advance_B94 x a0 h)
      · refine J_aload_n 0 dX5_advance_81 rv_is rfl ?_
        refine J_G (fun g2 => ?_)
        refine J_getR kc_5 2 (by decide) rfl rfl kw_2_80 dX5_advance_82 g2 ?_
        refine J_iload_n 1 dX5_advance_85 rfl ?_
        refine J_iload_n 1 dX5_advance_86 rfl ?_
        refine J_G (fun g3 => ?_)
        refine J_G (fun g4 => ?_)
        refine J_iast dX5_advance_87 g3 g4 ?_
        refine J_LTh (fun h5 => ?_)
        refine J_iincL (u := i1 + nI 1) 1 dX5_advance_88 rfl rfl (by decide) (SD.c (lvr := [(0, rv (zx x) a0)]) [0] rfl rfl 0 rfl rfl rv_cat) (fun v6 => ?_)
        refine J_goto (tgt := 66) dX5_advance_91 rfl ?_
        exact J_sub [1, 0] rfl (ih a0 v6 h5)
def X5_advance_B54 (a0 : Nat) (h : AH) : Option (Int32 × AH) :=
  G (xc h a0 = 5) <|
  LT (pI h a0 5 ((xI h a0 5) + (nI 1))) fun h2 =>
  X5_advance_B66 FU a0 (nI 0) h2
theorem jX5_advance_B54 (x : CT) (a0 : Nat) (h : AH) : J x qX5_advance ZI 54 [(0, rv (zx x) a0)] [] h (X5_advance_B54 a0 h) := by
  unfold X5_advance_B54
  refine J_aload_n 0 dX5_advance_54 rv_is rfl ?_
  refine J_dup dX5_advance_55 rv_cat ?_
  refine J_G (fun g1 => ?_)
  refine J_getI kc_5 5 (by decide) rfl rfl kw_2_83 dX5_advance_56 g1 ?_
  refine J_iconst (v := nI 1) dX5_advance_59 rfl ?_
  refine J_iadd dX5_advance_60 ?_
  refine J_putI kc_5 5 (by decide) rfl rfl rfl rfl (Or.inl rfl) kw_2_83 dX5_advance_61 g1 ?_
  refine J_LTh (fun h2 => ?_)
  refine J_iconst (v := nI 0) dX5_advance_64 rfl ?_
  refine J_istore_n dX5_advance_65 (by decide) (SD.c (lvr := [(0, rv (zx x) a0)]) [0] rfl rfl 0 rfl rfl rv_cat) ?_
  exact J_sub [1, 0] rfl (jX5_advance_B66 x FU a0 (nI 0) h2)
def X5_advance_f (a0 : Nat) (h : AH) : Option (Int32 × AH) :=
  G (xc h a0 = 5) <|
  if (xI h a0 4) ≤ ((xI h a0 6) + (nI 64)) then (
    G (xc h a0 = 5) <|
    LT (pI h a0 6 (nI 0)) fun h3 =>
    G (xc h3 a0 = 5) <|
    if (xI h3 a0 5) ≤ 0 then (
      X5_advance_B54 a0 h3
    ) else (
      G (xc h3 a0 = 5) <|
      BN (X5_advanceStem_f a0 ((xI h3 a0 5) - (nI 1)) h3) fun v7 h6 =>
      if v7 = 0 then (
        X5_advance_B54 a0 h6
      ) else (
        some (nI 1, h6)
      )
    )
  ) else (
    G (xc h a0 = 5) <|
    LT (pI h a0 6 ((xI h a0 6) + (nI 64))) fun h9 =>
    some (nI 1, h9)
  )
theorem jX5_advance (x : CT) (a0 : Nat) (h : AH) : J x qX5_advance ZI 0 [(0, rv (zx x) a0)] [] h (X5_advance_f a0 h) := by
  unfold X5_advance_f
  refine J_aload_n 0 dX5_advance_0 rv_is rfl ?_
  refine J_G (fun g1 => ?_)
  refine J_getI kc_5 6 (by decide) rfl rfl kw_2_85 dX5_advance_1 g1 ?_
  refine J_bipush (v := nI 64) dX5_advance_4 rfl ?_
  refine J_iadd dX5_advance_6 ?_
  refine J_aload_n 0 dX5_advance_7 rv_is rfl ?_
  refine J_getI kc_5 4 (by decide) rfl rfl kw_2_82 dX5_advance_8 g1 ?_
  refine J_icmp_ge (tgt := 27) dX5_advance_11 rfl ?_ ?_
  · refine J_aload_n 0 dX5_advance_27 rv_is rfl ?_
    refine J_iconst (v := nI 0) dX5_advance_28 rfl ?_
    refine J_G (fun g2 => ?_)
    refine J_putI kc_5 6 (by decide) rfl rfl rfl rfl (Or.inl rfl) kw_2_85 dX5_advance_29 g2 ?_
    refine J_LTh (fun h3 => ?_)
    refine J_aload_n 0 dX5_advance_32 rv_is rfl ?_
    refine J_G (fun g4 => ?_)
    refine J_getI kc_5 5 (by decide) rfl rfl kw_2_83 dX5_advance_33 g4 ?_
    refine J_if_le (tgt := 54) dX5_advance_36 rfl ?_ ?_
    · exact (jX5_advance_B54 x a0 h3)
    · refine J_aload_n 0 dX5_advance_39 rv_is rfl ?_
      refine J_aload_n 0 dX5_advance_40 rv_is rfl ?_
      refine J_G (fun g5 => ?_)
      refine J_getI kc_5 5 (by decide) rfl rfl kw_2_83 dX5_advance_41 g5 ?_
      refine J_iconst (v := nI 1) dX5_advance_44 rfl ?_
      refine J_isub dX5_advance_45 ?_
      refine J.callV (n := 1) (As := [.int ((xI h3 a0 5) - (nI 1))]) kc_5 (ctX5_advanceStem (lx x) (wx x) a0 ((xI h3 a0 5) - (nI 1)) h3) kw_5_134 kw_5_131 kw_5_132 kw_5_133 kw_1_8 (by decide +kernel) rfl (by decide) (Nat.zero_le _) rfl dX5_advance_46 g5 (fun v7 h6 => ?_)
      show J x _ _ 49 _ [.int v7] h6 _
      refine J_if_eq (tgt := 54) dX5_advance_49 rfl ?_ ?_
      · exact (jX5_advance_B54 x a0 h6)
      · refine J_iconst (v := nI 1) dX5_advance_52 rfl ?_
        exact J_zret dX5_advance_53 (by decide)
  · refine J_aload_n 0 dX5_advance_14 rv_is rfl ?_
    refine J_dup dX5_advance_15 rv_cat ?_
    refine J_G (fun g8 => ?_)
    refine J_getI kc_5 6 (by decide) rfl rfl kw_2_85 dX5_advance_16 g8 ?_
    refine J_bipush (v := nI 64) dX5_advance_19 rfl ?_
    refine J_iadd dX5_advance_21 ?_
    refine J_putI kc_5 6 (by decide) rfl rfl rfl rfl (Or.inl rfl) kw_2_85 dX5_advance_22 g8 ?_
    refine J_LTh (fun h9 => ?_)
    refine J_iconst (v := nI 1) dX5_advance_25 rfl ?_
    exact J_zret dX5_advance_26 (by decide)
theorem ctX5_advance (l : Launch) (w : WT) (a0 : Nat) (h : AH) : CM l w yX5_advance cX5_advance 2 (some .boolean) 2 44 KI [rv (w.1) a0] h (X5_advance_f a0 h) :=
  CM.of (by decide +kernel) (by simp [lg_sl, rv_cat, cat_I, cat_L, cat_S]) (lv := [(0, rv (w.1) a0)]) (by simp [lv_args, rv_cat, cat_I, cat_L, cat_S]) (fun x hx => by subst hx; exact jX5_advance x a0 h)
-- FallTrials$Purse.spread(LFallTrials$FallLanes;)V
abbrev qX5_spread : MT := (cX5_spread, RX5, "spread", none, 2, 51, 5)
def X5_spread_B214 (k132 : (Nat → Nat → Int32 → AH → Option (Unit × AH))) (a0 : Nat) (a1 : Nat) (i3 : Int32) (h : AH) : Option (Unit × AH) :=
  LT (i3 + nI 1) fun v1 =>
  k132 a0 a1 v1 h
theorem jX5_spread_B214 (x : CT) (k132 : (Nat → Nat → Int32 → AH → Option (Unit × AH))) (hk132 : ∀ (a0 : Nat) (a1 : Nat) (i3 : Int32) (h : AH), J x qX5_spread ZV 132 [(0, rv (zx x) a0), (1, rv (zx x) a1), (3, .int i3)] [] h (k132 a0 a1 i3 h)) (a0 : Nat) (a1 : Nat) (i3 : Int32) (h : AH) : J x qX5_spread ZV 214 [(0, rv (zx x) a0), (1, rv (zx x) a1), (3, .int i3)] [] h (X5_spread_B214 k132 a0 a1 i3 h) := by
  unfold X5_spread_B214
  refine J_iincL (u := i3 + nI 1) 2 dX5_spread_214 rfl rfl (by decide) (SD.a (lvr := [(0, rv (zx x) a0), (1, rv (zx x) a1)]) [0, 1] rfl rfl) (fun v1 => ?_)
  refine J_goto (tgt := 132) dX5_spread_217 rfl ?_
  exact J_sub [1, 2, 0] rfl (hk132 a0 a1 v1 h)
def X5_spread_B132 : Nat → Nat → Nat → Int32 → AH → Option (Unit × AH)
  | 0, _, _, _, _ => none
  | n + 1, a0, a1, i3, h =>
    G (xc h a0 = 5) <|
    if (xI h a0 4) ≤ i3 then (
      some ((), h)
    ) else (
      G (xc h a0 = 5) <|
      if ((xI h a0 6) + (nI 64)) ≤ i3 then (
        some ((), h)
      ) else (
        G (xc h a0 = 5) <|
        G (xc h (xR h a0 1) = 16) <|
        G (gx i3 (xz h (xR h a0 1))) <|
        LT ((xI h (xR h a0 1) i3.toNatClampNeg) / (nI 100)) fun v6 =>
        G (xc h (xR h a0 3) = 16) <|
        G (gx v6 (xz h (xR h a0 3))) <|
        G (xc h (xR h a0 0) = 16) <|
        G (gx v6 (xz h (xR h a0 0))) <|
        if (xI h (xR h a0 0) v6.toNatClampNeg) ≤ (xI h (xR h a0 3) v6.toNatClampNeg) then (
          X5_spread_B214 (X5_spread_B132 n) a0 a1 i3 h
        ) else (
          G (xc h a0 = 5) <|
          LT (pL h a0 7 ((xL h a0 7) ||| ((lN 1) <<< ((i3 - (xI h a0 6)).toInt64 &&& 63)))) fun h12 =>
          G (xc h12 a0 = 5) <|
          G (xc h12 (xR h12 a0 1) = 16) <|
          G (gx i3 (xz h12 (xR h12 a0 1))) <|
          G (xc h12 a1 = 3) <|
          BN (X3_put_f a1 (xI h12 (xR h12 a0 1) i3.toNatClampNeg) ((lN 1) <<< ((i3 - (xI h12 a0 6)).toInt64 &&& 63)) h12) fun _ h17 =>
          X5_spread_B214 (X5_spread_B132 n) a0 a1 i3 h17
        )
      )
    )
theorem jX5_spread_B132 (x : CT) : ∀ (n : Nat) (a0 : Nat) (a1 : Nat) (i3 : Int32) (h : AH), J x qX5_spread ZV 132 [(0, rv (zx x) a0), (1, rv (zx x) a1), (3, .int i3)] [] h (X5_spread_B132 n a0 a1 i3 h) := by
  intro n
  induction n with
  | zero => intro a0 a1 i3 h; exact J_none
  | succ n ih =>
    intro a0 a1 i3 h
    unfold X5_spread_B132
    refine J_iload_n 2 dX5_spread_132 rfl ?_
    refine J_aload_n 0 dX5_spread_133 rv_is rfl ?_
    refine J_G (fun g1 => ?_)
    refine J_getI kc_5 4 (by decide) rfl rfl kw_2_82 dX5_spread_134 g1 ?_
    refine J_icmp_ge (tgt := 220) dX5_spread_137 rfl ?_ ?_
    · exact J_vret dX5_spread_220
    · refine J_iload_n 2 dX5_spread_140 rfl ?_
      refine J_aload_n 0 dX5_spread_141 rv_is rfl ?_
      refine J_G (fun g2 => ?_)
      refine J_getI kc_5 6 (by decide) rfl rfl kw_2_85 dX5_spread_142 g2 ?_
      refine J_bipush (v := nI 64) dX5_spread_145 rfl ?_
      refine J_iadd dX5_spread_147 ?_
      refine J_icmp_ge (tgt := 220) dX5_spread_148 rfl ?_ ?_
      · exact J_vret dX5_spread_220
      · refine J_aload_n 0 dX5_spread_151 rv_is rfl ?_
        refine J_G (fun g3 => ?_)
        refine J_getR kc_5 1 (by decide) rfl rfl kw_2_79 dX5_spread_152 g3 ?_
        refine J_iload_n 2 dX5_spread_155 rfl ?_
        refine J_G (fun g4 => ?_)
        refine J_G (fun g5 => ?_)
        refine J_iald dX5_spread_156 g4 g5 ?_
        refine J_bipush (v := nI 100) dX5_spread_157 rfl ?_
        refine J_idiv dX5_spread_159 (by decide) ?_
        refine J_LTi (fun v6 => ?_)
        refine J_istore dX5_spread_160 (by decide) (SD.a (lvr := [(0, rv (zx x) a0), (1, rv (zx x) a1), (3, .int i3)]) [0, 1, 2] rfl rfl) ?_
        refine J_aload_n 1 dX5_spread_162 rv_is rfl ?_
        refine J_getR kc_5 3 (by decide) rfl rfl kw_2_81 dX5_spread_163 g3 ?_
        refine J_iload 0 dX5_spread_166 rfl ?_
        refine J_G (fun g7 => ?_)
        refine J_G (fun g8 => ?_)
        refine J_iald dX5_spread_168 g7 g8 ?_
        refine J_aload_n 1 dX5_spread_169 rv_is rfl ?_
        refine J_getR kc_5 0 (by decide) rfl rfl kw_2_77 dX5_spread_170 g3 ?_
        refine J_iload 0 dX5_spread_173 rfl ?_
        refine J_G (fun g9 => ?_)
        refine J_G (fun g10 => ?_)
        refine J_iald dX5_spread_175 g9 g10 ?_
        refine J_icmp_ge (tgt := 214) dX5_spread_176 rfl ?_ ?_
        · exact J_sub [1, 2, 3] rfl (jX5_spread_B214 x (X5_spread_B132 n) ih a0 a1 i3 h)
        · refine J_aload_n 1 dX5_spread_179 rv_is rfl ?_
          refine J_dup dX5_spread_180 rv_cat ?_
          refine J_G (fun g11 => ?_)
          refine J_getL kc_5 7 (by decide) rfl rfl kw_2_87 dX5_spread_181 g11 ?_
          refine J_lconst (v := lN 1) dX5_spread_184 rfl ?_
          refine J_iload_n 3 dX5_spread_185 rfl ?_
          refine J_aload_n 1 dX5_spread_186 rv_is rfl ?_
          refine J_getI kc_5 6 (by decide) rfl rfl kw_2_85 dX5_spread_187 g11 ?_
          refine J_isub dX5_spread_190 ?_
          refine J_lshl dX5_spread_191 ?_
          refine J_lor dX5_spread_192 ?_
          refine J_putL kc_5 7 (by decide) rfl rfl rfl (Or.inl rfl) kw_2_87 dX5_spread_193 g11 ?_
          refine J_LTh (fun h12 => ?_)
          refine J_aload_n 2 dX5_spread_196 rv_is rfl ?_
          refine J_aload_n 1 dX5_spread_197 rv_is rfl ?_
          refine J_G (fun g13 => ?_)
          refine J_getR kc_5 1 (by decide) rfl rfl kw_2_79 dX5_spread_198 g13 ?_
          refine J_iload_n 3 dX5_spread_201 rfl ?_
          refine J_G (fun g14 => ?_)
          refine J_G (fun g15 => ?_)
          refine J_iald dX5_spread_202 g14 g15 ?_
          refine J_lconst (v := lN 1) dX5_spread_203 rfl ?_
          refine J_iload_n 3 dX5_spread_204 rfl ?_
          refine J_aload_n 1 dX5_spread_205 rv_is rfl ?_
          refine J_getI kc_5 6 (by decide) rfl rfl kw_2_85 dX5_spread_206 g13 ?_
          refine J_isub dX5_spread_209 ?_
          refine J_lshl dX5_spread_210 ?_
          refine J_G (fun g16 => ?_)
          refine J.callV (n := 2) (As := [.int (xI h12 (xR h12 a0 1) i3.toNatClampNeg), .long ((lN 1) <<< ((i3 - (xI h12 a0 6)).toInt64 &&& 63))]) kc_3 (ctX3_put (lx x) (wx x) a1 (xI h12 (xR h12 a0 1) i3.toNatClampNeg) ((lN 1) <<< ((i3 - (xI h12 a0 6)).toInt64 &&& 63)) h12) kw_4_132 kw_5_146 kw_4_130 kw_4_131 kw_1_9 (by decide +kernel) rfl (by decide) (Nat.zero_le _) rfl dX5_spread_211 g16 (fun _ h17 => ?_)
          show J x _ _ 214 _ [] h17 _
          exact J_sub [1, 2, 3] rfl (jX5_spread_B214 x (X5_spread_B132 n) ih a0 a1 i3 h17)
def X5_spread_B123 (a0 : Nat) (a1 : Nat) (i2 : Int32) (h : AH) : Option (Unit × AH) :=
  G (xc h a0 = 5) <|
  LT (if i2 < (xI h a0 6) then (xI h a0 6) else i2) fun v2 =>
  X5_spread_B132 FU a0 a1 v2 h
theorem jX5_spread_B123 (x : CT) (a0 : Nat) (a1 : Nat) (i2 : Int32) (h : AH) : J x qX5_spread ZV 123 [(0, rv (zx x) a0), (1, rv (zx x) a1), (2, .int i2)] [] h (X5_spread_B123 a0 a1 i2 h) := by
  unfold X5_spread_B123
  refine J_iload_n 2 dX5_spread_123 rfl ?_
  refine J_aload_n 0 dX5_spread_124 rv_is rfl ?_
  refine J_G (fun g1 => ?_)
  refine J_getI kc_5 6 (by decide) rfl rfl kw_2_85 dX5_spread_125 g1 ?_
  refine J_mmax kw_5_147 kw_3_121 kw_1_19 kw_3_122 (by decide) dX5_spread_128 ?_
  refine J_LTi (fun v2 => ?_)
  refine J_istore_n dX5_spread_131 (by decide) (SD.a (lvr := [(0, rv (zx x) a0), (1, rv (zx x) a1)]) [0, 1] rfl rfl) ?_
  exact J_sub [1, 2, 0] rfl (jX5_spread_B132 x FU a0 a1 v2 h)
def X5_spread_B33 : Nat → Nat → Nat → Int32 → Int32 → AH → Option (Unit × AH)
  | 0, _, _, _, _, _ => none
  | n + 1, a0, a1, i2, i3, h =>
    G (xc h a0 = 5) <|
    if ((xI h a0 5) - (nI 1)) ≤ i3 then (
      X5_spread_B123 a0 a1 i2 h
    ) else (
      if (nI 3) ≤ i3 then (
        X5_spread_B123 a0 a1 i2 h
      ) else (
        G (xc h a0 = 5) <|
        G (xc h (xR h a0 2) = 16) <|
        G (gx i3 (xz h (xR h a0 2))) <|
        G (xc h (xR h a0 1) = 16) <|
        G (gx (xI h (xR h a0 2) i3.toNatClampNeg) (xz h (xR h a0 1))) <|
        LT (xI h (xR h a0 1) (xI h (xR h a0 2) i3.toNatClampNeg).toNatClampNeg) fun v7 =>
        G (xc h (xR h a0 3) = 16) <|
        G (gx (v7 / (nI 100)) (xz h (xR h a0 3))) <|
        G (gx (v7 / (nI 100)) (xz h (xR h a0 3))) <|
        LT (pI h (xR h a0 3) (v7 / (nI 100)).toNatClampNeg ((xI h (xR h a0 3) (v7 / (nI 100)).toNatClampNeg) + (nI 1))) fun h11 =>
        G (xc h11 a0 = 5) <|
        G (xc h11 (xR h11 a0 3) = 16) <|
        G (gx (v7 / (nI 100)) (xz h11 (xR h11 a0 3))) <|
        G (xc h11 (xR h11 a0 0) = 16) <|
        G (gx (v7 / (nI 100)) (xz h11 (xR h11 a0 0))) <|
        if (xI h11 (xR h11 a0 3) (v7 / (nI 100)).toNatClampNeg) ≤ (xI h11 (xR h11 a0 0) (v7 / (nI 100)).toNatClampNeg) then (
          G (xc h11 a1 = 3) <|
          BN (X3_put_f a1 v7 (-1) h11) fun _ h18 =>
          G (xc h18 a0 = 5) <|
          G (xc h18 (xR h18 a0 2) = 16) <|
          G (gx i3 (xz h18 (xR h18 a0 2))) <|
          LT ((xI h18 (xR h18 a0 2) i3.toNatClampNeg) + (nI 1)) fun v22 =>
          LT (i3 + nI 1) fun v23 =>
          X5_spread_B33 n a0 a1 v22 v23 h18
        ) else (
          some ((), h11)
        )
      )
    )
theorem jX5_spread_B33 (x : CT) : ∀ (n : Nat) (a0 : Nat) (a1 : Nat) (i2 : Int32) (i3 : Int32) (h : AH), J x qX5_spread ZV 33 [(0, rv (zx x) a0), (1, rv (zx x) a1), (2, .int i2), (3, .int i3)] [] h (X5_spread_B33 n a0 a1 i2 i3 h) := by
  intro n
  induction n with
  | zero => intro a0 a1 i2 i3 h; exact J_none
  | succ n ih =>
    intro a0 a1 i2 i3 h
    unfold X5_spread_B33
    refine J_iload_n 3 dX5_spread_33 rfl ?_
    refine J_aload_n 0 dX5_spread_34 rv_is rfl ?_
    refine J_G (fun g1 => ?_)
    refine J_getI kc_5 5 (by decide) rfl rfl kw_2_83 dX5_spread_35 g1 ?_
    refine J_iconst (v := nI 1) dX5_spread_38 rfl ?_
    refine J_isub dX5_spread_39 ?_
    refine J_icmp_ge (tgt := 123) dX5_spread_40 rfl ?_ ?_
    · exact J_sub [0, 1, 2] rfl (jX5_spread_B123 x a0 a1 i2 h)
    · refine J_iload_n 3 dX5_spread_43 rfl ?_
      refine J_iconst (v := nI 3) dX5_spread_44 rfl ?_
      refine J_icmp_ge (tgt := 123) dX5_spread_45 rfl ?_ ?_
      · exact J_sub [0, 1, 2] rfl (jX5_spread_B123 x a0 a1 i2 h)
      · refine J_aload_n 0 dX5_spread_48 rv_is rfl ?_
        refine J_G (fun g2 => ?_)
        refine J_getR kc_5 1 (by decide) rfl rfl kw_2_79 dX5_spread_49 g2 ?_
        refine J_aload_n 0 dX5_spread_52 rv_is rfl ?_
        refine J_getR kc_5 2 (by decide) rfl rfl kw_2_80 dX5_spread_53 g2 ?_
        refine J_iload_n 3 dX5_spread_56 rfl ?_
        refine J_G (fun g3 => ?_)
        refine J_G (fun g4 => ?_)
        refine J_iald dX5_spread_57 g3 g4 ?_
        refine J_G (fun g5 => ?_)
        refine J_G (fun g6 => ?_)
        refine J_iald dX5_spread_58 g5 g6 ?_
        refine J_LTi (fun v7 => ?_)
        refine J_istore dX5_spread_59 (by decide) (SD.a (lvr := [(0, rv (zx x) a0), (1, rv (zx x) a1), (3, .int i3)]) [0, 1, 3] rfl rfl) ?_
        refine J_aload_n 1 dX5_spread_61 rv_is rfl ?_
        refine J_getR kc_5 3 (by decide) rfl rfl kw_2_81 dX5_spread_62 g2 ?_
        refine J_iload 0 dX5_spread_65 rfl ?_
        refine J_bipush (v := nI 100) dX5_spread_67 rfl ?_
        refine J_idiv dX5_spread_69 (by decide) ?_
        refine J_dup2 dX5_spread_70 rfl rv_cat ?_
        refine J_G (fun g8 => ?_)
        refine J_G (fun g9 => ?_)
        refine J_iald dX5_spread_71 g8 g9 ?_
        refine J_iconst (v := nI 1) dX5_spread_72 rfl ?_
        refine J_iadd dX5_spread_73 ?_
        refine J_G (fun g10 => ?_)
        refine J_iast dX5_spread_74 g8 g10 ?_
        refine J_LTh (fun h11 => ?_)
        refine J_aload_n 1 dX5_spread_75 rv_is rfl ?_
        refine J_G (fun g12 => ?_)
        refine J_getR kc_5 3 (by decide) rfl rfl kw_2_81 dX5_spread_76 g12 ?_
        refine J_iload 0 dX5_spread_79 rfl ?_
        refine J_bipush (v := nI 100) dX5_spread_81 rfl ?_
        refine J_idiv dX5_spread_83 (by decide) ?_
        refine J_G (fun g13 => ?_)
        refine J_G (fun g14 => ?_)
        refine J_iald dX5_spread_84 g13 g14 ?_
        refine J_aload_n 1 dX5_spread_85 rv_is rfl ?_
        refine J_getR kc_5 0 (by decide) rfl rfl kw_2_77 dX5_spread_86 g12 ?_
        refine J_iload 0 dX5_spread_89 rfl ?_
        refine J_bipush (v := nI 100) dX5_spread_91 rfl ?_
        refine J_idiv dX5_spread_93 (by decide) ?_
        refine J_G (fun g15 => ?_)
        refine J_G (fun g16 => ?_)
        refine J_iald dX5_spread_94 g15 g16 ?_
        refine J_icmp_le (tgt := 99) dX5_spread_95 rfl ?_ ?_
        · refine J_aload_n 2 dX5_spread_99 rv_is rfl ?_
          refine J_iload 0 dX5_spread_100 rfl ?_
          refine J_ldc2 (v := (-1)) dX5_spread_102 kw_5_145 ?_
          refine J_G (fun g17 => ?_)
          refine J.callV (n := 2) (As := [.int v7, .long ((-1))]) kc_3 (ctX3_put (lx x) (wx x) a1 v7 (-1) h11) kw_4_132 kw_5_146 kw_4_130 kw_4_131 kw_1_9 (by decide +kernel) rfl (by decide) (Nat.zero_le _) rfl dX5_spread_105 g17 (fun _ h18 => ?_)
          show J x _ _ 108 _ [] h18 _
          refine J_aload_n 1 dX5_spread_108 rv_is rfl ?_
          refine J_G (fun g19 => ?_)
          refine J_getR kc_5 2 (by decide) rfl rfl kw_2_80 dX5_spread_109 g19 ?_
          refine J_iload_n 3 dX5_spread_112 rfl ?_
          refine J_G (fun g20 => ?_)
          refine J_G (fun g21 => ?_)
          refine J_iald dX5_spread_113 g20 g21 ?_
          refine J_iconst (v := nI 1) dX5_spread_114 rfl ?_
          refine J_iadd dX5_spread_115 ?_
          refine J_LTi (fun v22 => ?_)
          refine J_istore_n dX5_spread_116 (by decide) (SD.c (lvr := [(0, rv (zx x) a0), (1, rv (zx x) a1), (3, .int i3)]) [1, 2, 3] rfl rfl 1 rfl rfl rv_cat) ?_
          refine J_iincL (u := i3 + nI 1) 3 dX5_spread_117 rfl rfl (by decide) (SD.a (lvr := [(2, .int v22), (0, rv (zx x) a0), (1, rv (zx x) a1)]) [0, 1, 2] rfl rfl) (fun v23 => ?_)
          refine J_goto (tgt := 33) dX5_spread_120 rfl ?_
          exact J_sub [2, 3, 1, 0] rfl (ih a0 a1 v22 v23 h18)
        · exact J_vret dX5_spread_98
def X5_spread_B29 (a0 : Nat) (a1 : Nat) (h : AH) : Option (Unit × AH) :=
  X5_spread_B33 FU a0 a1 (nI 0) (nI 0) h
theorem jX5_spread_B29 (x : CT) (a0 : Nat) (a1 : Nat) (h : AH) : J x qX5_spread ZV 29 [(0, rv (zx x) a0), (1, rv (zx x) a1)] [] h (X5_spread_B29 a0 a1 h) := by
  unfold X5_spread_B29
  refine J_iconst (v := nI 0) dX5_spread_29 rfl ?_
  refine J_istore_n dX5_spread_30 (by decide) (SD.c (lvr := [(0, rv (zx x) a0), (1, rv (zx x) a1)]) [0, 1] rfl rfl 1 rfl rfl rv_cat) ?_
  refine J_iconst (v := nI 0) dX5_spread_31 rfl ?_
  refine J_istore_n dX5_spread_32 (by decide) (SD.a (lvr := [(2, .int (nI 0)), (0, rv (zx x) a0), (1, rv (zx x) a1)]) [0, 1, 2] rfl rfl) ?_
  exact J_sub [2, 3, 1, 0] rfl (jX5_spread_B33 x FU a0 a1 (nI 0) (nI 0) h)
def X5_spread_B11 : Nat → Nat → Nat → Int32 → AH → Option (Unit × AH)
  | 0, _, _, _, _ => none
  | n + 1, a0, a1, i2, h =>
    if (nI 4) ≤ i2 then (
      X5_spread_B29 a0 a1 h
    ) else (
      G (xc h a0 = 5) <|
      G (xc h (xR h a0 3) = 16) <|
      G (gx i2 (xz h (xR h a0 3))) <|
      LT (pI h (xR h a0 3) i2.toNatClampNeg (nI 0)) fun h4 =>
      LT (i2 + nI 1) fun v5 =>
      X5_spread_B11 n a0 a1 v5 h4
    )
theorem jX5_spread_B11 (x : CT) : ∀ (n : Nat) (a0 : Nat) (a1 : Nat) (i2 : Int32) (h : AH), J x qX5_spread ZV 11 [(0, rv (zx x) a0), (1, rv (zx x) a1), (2, .int i2)] [] h (X5_spread_B11 n a0 a1 i2 h) := by
  intro n
  induction n with
  | zero => intro a0 a1 i2 h; exact J_none
  | succ n ih =>
    intro a0 a1 i2 h
    unfold X5_spread_B11
    refine J_iload_n 2 dX5_spread_11 rfl ?_
    refine J_iconst (v := nI 4) dX5_spread_12 rfl ?_
    refine J_icmp_ge (tgt := 29) dX5_spread_13 rfl ?_ ?_
    · exact J_sub [0, 1] rfl (jX5_spread_B29 x a0 a1 h)
    · refine J_aload_n 0 dX5_spread_16 rv_is rfl ?_
      refine J_G (fun g1 => ?_)
      refine J_getR kc_5 3 (by decide) rfl rfl kw_2_81 dX5_spread_17 g1 ?_
      refine J_iload_n 2 dX5_spread_20 rfl ?_
      refine J_iconst (v := nI 0) dX5_spread_21 rfl ?_
      refine J_G (fun g2 => ?_)
      refine J_G (fun g3 => ?_)
      refine J_iast dX5_spread_22 g2 g3 ?_
      refine J_LTh (fun h4 => ?_)
      refine J_iincL (u := i2 + nI 1) 2 dX5_spread_23 rfl rfl (by decide) (SD.c (lvr := [(0, rv (zx x) a0), (1, rv (zx x) a1)]) [0, 1] rfl rfl 1 rfl rfl rv_cat) (fun v5 => ?_)
      refine J_goto (tgt := 11) dX5_spread_26 rfl ?_
      exact J_sub [1, 2, 0] rfl (ih a0 a1 v5 h4)
def X5_spread_f (a0 : Nat) (a1 : Nat) (h : AH) : Option (Unit × AH) :=
  G (xc h a1 = 3) <|
  BN (X3_wipe_f a1 h) fun _ h2 =>
  G (xc h2 a0 = 5) <|
  LT (pL h2 a0 7 (lN 0)) fun h4 =>
  X5_spread_B11 FU a0 a1 (nI 0) h4
theorem jX5_spread (x : CT) (a0 : Nat) (a1 : Nat) (h : AH) : J x qX5_spread ZV 0 [(0, rv (zx x) a0), (1, rv (zx x) a1)] [] h (X5_spread_f a0 a1 h) := by
  unfold X5_spread_f
  refine J_aload_n 1 dX5_spread_0 rv_is rfl ?_
  refine J_G (fun g1 => ?_)
  refine J.callV (n := 0) (As := []) kc_3 (ctX3_wipe (lx x) (wx x) a1 h) kw_4_124 kw_5_144 kw_4_122 kw_4_123 kw_1_9 (by decide +kernel) rfl (by decide) (Nat.zero_le _) rfl dX5_spread_1 g1 (fun _ h2 => ?_)
  show J x _ _ 4 _ [] h2 _
  refine J_aload_n 0 dX5_spread_4 rv_is rfl ?_
  refine J_lconst (v := lN 0) dX5_spread_5 rfl ?_
  refine J_G (fun g3 => ?_)
  refine J_putL kc_5 7 (by decide) rfl rfl rfl (Or.inl rfl) kw_2_87 dX5_spread_6 g3 ?_
  refine J_LTh (fun h4 => ?_)
  refine J_iconst (v := nI 0) dX5_spread_9 rfl ?_
  refine J_istore_n dX5_spread_10 (by decide) (SD.c (lvr := [(0, rv (zx x) a0), (1, rv (zx x) a1)]) [0, 1] rfl rfl 1 rfl rfl rv_cat) ?_
  exact J_sub [1, 2, 0] rfl (jX5_spread_B11 x FU a0 a1 (nI 0) h4)
theorem ctX5_spread (l : Launch) (w : WT) (a0 : Nat) (a1 : Nat) (h : AH) : CM l w yX5_spread cX5_spread 5 none 2 51 KV [rv (w.1) a0, rv (w.1) a1] h (X5_spread_f a0 a1 h) :=
  CM.of (by decide +kernel) (by simp [lg_sl, rv_cat, cat_I, cat_L, cat_S]) (lv := [(0, rv (w.1) a0), (1, rv (w.1) a1)]) (by simp [lv_args, rv_cat, cat_I, cat_L, cat_S]) (fun x hx => by subst hx; exact jX5_spread x a0 a1 h)
-- FallTrials$Reader.meaning()I
abbrev qX6_meaning : MT := (cX6_meaning, RX6, "meaning", (some .int), 1, 23, 4)
def X6_meaning_B26 (a0 : Nat) (i3 : Int32) (h : AH) : Option (Int32 × AH) :=
  G (xc h a0 = 6) <|
  G (xc h (xR h a0 2) = 16) <|
  G (gx i3 (xz h (xR h a0 2))) <|
  some (xI h (xR h a0 2) i3.toNatClampNeg, h)
theorem jX6_meaning_B26 (x : CT) (a0 : Nat) (i3 : Int32) (h : AH) : J x qX6_meaning ZI 26 [(0, rv (zx x) a0), (3, .int i3)] [] h (X6_meaning_B26 a0 i3 h) := by
  unfold X6_meaning_B26
  refine J_aload_n 0 dX6_meaning_26 rv_is rfl ?_
  refine J_G (fun g1 => ?_)
  refine J_getR kc_6 2 (by decide) rfl rfl kw_1_207 dX6_meaning_27 g1 ?_
  refine J_iload_n 1 dX6_meaning_30 rfl ?_
  refine J_G (fun g2 => ?_)
  refine J_G (fun g3 => ?_)
  refine J_iald dX6_meaning_31 g2 g3 ?_
  exact J_iret dX6_meaning_32
def X6_meaning_B7 : Nat → Nat → Int64 → Int32 → AH → Option (Int32 × AH)
  | 0, _, _, _, _ => none
  | n + 1, a0, l1, i3, h =>
    G (xc h a0 = 6) <|
    if (xI h a0 3) ≤ i3 then (
      some ((-1), h)
    ) else (
      G (xc h a0 = 6) <|
      G (xc h (xR h a0 1) = 17) <|
      G (gx i3 (xz h (xR h a0 1))) <|
      if (lg_cmp (xL h (xR h a0 1) i3.toNatClampNeg) l1) = 0 then (
        X6_meaning_B26 a0 i3 h
      ) else (
        LT (i3 + nI 1) fun v5 =>
        X6_meaning_B7 n a0 l1 v5 h
      )
    )
theorem jX6_meaning_B7 (x : CT) : ∀ (n : Nat) (a0 : Nat) (l1 : Int64) (i3 : Int32) (h : AH), J x qX6_meaning ZI 7 [(0, rv (zx x) a0), (1, .long l1), (3, .int i3)] [] h (X6_meaning_B7 n a0 l1 i3 h) := by
  intro n
  induction n with
  | zero => intro a0 l1 i3 h; exact J_none
  | succ n ih =>
    intro a0 l1 i3 h
    unfold X6_meaning_B7
    refine J_iload_n 2 dX6_meaning_7 rfl ?_
    refine J_aload_n 0 dX6_meaning_8 rv_is rfl ?_
    refine J_G (fun g1 => ?_)
    refine J_getI kc_6 3 (by decide) rfl rfl kw_1_208 dX6_meaning_9 g1 ?_
    refine J_icmp_ge (tgt := 39) dX6_meaning_12 rfl ?_ ?_
    · refine J_iconst (v := (-1)) dX6_meaning_39 rfl ?_
      exact J_iret dX6_meaning_40
    · refine J_aload_n 0 dX6_meaning_15 rv_is rfl ?_
      refine J_G (fun g2 => ?_)
      refine J_getR kc_6 1 (by decide) rfl rfl kw_1_206 dX6_meaning_16 g2 ?_
      refine J_iload_n 2 dX6_meaning_19 rfl ?_
      refine J_G (fun g3 => ?_)
      refine J_G (fun g4 => ?_)
      refine J_lald dX6_meaning_20 g3 g4 ?_
      refine J_lload_n 1 dX6_meaning_21 rfl ?_
      refine J_lcmp dX6_meaning_22 ?_
      refine J_if_ne (tgt := 33) dX6_meaning_23 rfl ?_ ?_
      · refine J_iincL (u := i3 + nI 1) 2 dX6_meaning_33 rfl rfl (by decide) (SD.a (lvr := [(0, rv (zx x) a0), (1, .long l1)]) [0, 1] rfl rfl) (fun v5 => ?_)
        refine J_goto (tgt := 7) dX6_meaning_36 rfl ?_
        exact J_sub [1, 2, 0] rfl (ih a0 l1 v5 h)
      · exact J_sub [0, 2] rfl (jX6_meaning_B26 x a0 i3 h)
def X6_meaning_f (a0 : Nat) (h : AH) : Option (Int32 × AH) :=
  G (xc h a0 = 6) <|
  BN (X6_spelling_f a0 h) fun w3 h2 =>
  X6_meaning_B7 FU a0 w3 (nI 0) h2
theorem jX6_meaning (x : CT) (a0 : Nat) (h : AH) : J x qX6_meaning ZI 0 [(0, rv (zx x) a0)] [] h (X6_meaning_f a0 h) := by
  unfold X6_meaning_f
  refine J_aload_n 0 dX6_meaning_0 rv_is rfl ?_
  refine J_G (fun g1 => ?_)
  refine J.callV (n := 0) (As := []) kc_6 (ctX6_spelling (lx x) (wx x) a0 h) kw_3_221 kw_3_218 kw_3_219 kw_3_220 kw_1_4 (by decide +kernel) rfl (by decide) (Nat.zero_le _) rfl dX6_meaning_1 g1 (fun w3 h2 => ?_)
  show J x _ _ 4 _ [.long w3] h2 _
  refine J_lstore_n dX6_meaning_4 (by decide) (SD.c (lvr := [(0, rv (zx x) a0)]) [0] rfl rfl 0 rfl rfl rv_cat) rfl ?_
  refine J_iconst (v := nI 0) dX6_meaning_5 rfl ?_
  refine J_istore_n dX6_meaning_6 (by decide) (SD.a (lvr := [(1, .long w3), (0, rv (zx x) a0)]) [0, 1] rfl rfl) ?_
  exact J_sub [2, 1, 0] rfl (jX6_meaning_B7 x FU a0 w3 (nI 0) h2)
theorem ctX6_meaning (l : Launch) (w : WT) (a0 : Nat) (h : AH) : CM l w yX6_meaning cX6_meaning 4 (some .int) 1 23 KI [rv (w.1) a0] h (X6_meaning_f a0 h) :=
  CM.of (by decide +kernel) (by simp [lg_sl, rv_cat, cat_I, cat_L, cat_S]) (lv := [(0, rv (w.1) a0)]) (by simp [lv_args, rv_cat, cat_I, cat_L, cat_S]) (fun x hx => by subst hx; exact jX6_meaning x a0 h)
-- FallTrials$Reader.stepToMachine()I
abbrev qX6_stepToMachine : MT := (cX6_stepToMachine, RX6, "stepToMachine", (some .int), 6, 127, 2)
def X6_stepToMachine_B34 (a0 : Nat) (h : AH) : Option (Int32 × AH) :=
  G (xc h a0 = 6) <|
  BN (X6_flawed_f a0 (nI 2) h) fun v3 h2 =>
  some ((-1), h2)
theorem jX6_stepToMachine_B34 (x : CT) (a0 : Nat) (h : AH) : J x qX6_stepToMachine ZI 34 [(0, rv (zx x) a0)] [] h (X6_stepToMachine_B34 a0 h) := by
  unfold X6_stepToMachine_B34
  refine J_aload_n 0 dX6_stepToMachine_34 rv_is rfl ?_
  refine J_iconst (v := nI 2) dX6_stepToMachine_35 rfl ?_
  refine J_G (fun g1 => ?_)
  refine J.callV (n := 1) (As := [.int (nI 2)]) kc_6 (ctX6_flawed (lx x) (wx x) a0 (nI 2) h) kw_3_213 kw_3_210 kw_3_211 kw_3_212 kw_1_4 (by decide +kernel) rfl (by decide) (Nat.zero_le _) rfl dX6_stepToMachine_36 g1 (fun v3 h2 => ?_)
  show J x _ _ 39 _ [.int v3] h2 _
  refine J_pop dX6_stepToMachine_39 rfl ?_
  refine J_iconst (v := (-1)) dX6_stepToMachine_40 rfl ?_
  exact J_iret dX6_stepToMachine_41
def X6_stepToMachine_f (a0 : Nat) (h : AH) : Option (Int32 × AH) :=
  G (xc h a0 = 6) <|
  BN (X6_step_f a0 h) fun _ h2 =>
  G (xc h2 a0 = 6) <|
  BN (X6_isName_f a0 h2) fun v5 h4 =>
  if v5 = 0 then (
    G (xc h4 a0 = 6) <|
    BN (X6_flawed_f a0 (nI 1) h4) fun v11 h10 =>
    some ((-1), h10)
  ) else (
    G (xc h4 a0 = 6) <|
    BN (X6_meaning_f a0 h4) fun v8 h7 =>
    if v8 = (-1) then (
      X6_stepToMachine_B34 a0 h7
    ) else (
      if v8 < (nI 4) then (
        some (v8, h7)
      ) else (
        X6_stepToMachine_B34 a0 h7
      )
    )
  )
theorem jX6_stepToMachine (x : CT) (a0 : Nat) (h : AH) : J x qX6_stepToMachine ZI 0 [(0, rv (zx x) a0)] [] h (X6_stepToMachine_f a0 h) := by
  unfold X6_stepToMachine_f
  refine J_aload_n 0 dX6_stepToMachine_0 rv_is rfl ?_
  refine J_G (fun g1 => ?_)
  refine J.callV (n := 0) (As := []) kc_6 (ctX6_step (lx x) (wx x) a0 h) kw_3_130 kw_3_127 kw_3_128 kw_3_129 kw_1_4 (by decide +kernel) rfl (by decide) (Nat.zero_le _) rfl dX6_stepToMachine_1 g1 (fun _ h2 => ?_)
  show J x _ _ 4 _ [] h2 _
  refine J_aload_n 0 dX6_stepToMachine_4 rv_is rfl ?_
  refine J_G (fun g3 => ?_)
  refine J.callV (n := 0) (As := []) kc_6 (ctX6_isName (lx x) (wx x) a0 h2) kw_3_200 kw_3_197 kw_3_198 kw_3_199 kw_1_4 (by decide +kernel) rfl (by decide) (Nat.zero_le _) rfl dX6_stepToMachine_5 g3 (fun v5 h4 => ?_)
  show J x _ _ 8 _ [.int v5] h4 _
  refine J_if_ne (tgt := 19) dX6_stepToMachine_8 rfl ?_ ?_
  · refine J_aload_n 0 dX6_stepToMachine_19 rv_is rfl ?_
    refine J_G (fun g6 => ?_)
    refine J.callV (n := 0) (As := []) kc_6 (ctX6_meaning (lx x) (wx x) a0 h4) kw_3_217 kw_3_214 kw_3_215 kw_3_216 kw_1_4 (by decide +kernel) rfl (by decide) (Nat.zero_le _) rfl dX6_stepToMachine_20 g6 (fun v8 h7 => ?_)
    show J x _ _ 23 _ [.int v8] h7 _
    refine J_istore_n dX6_stepToMachine_23 (by decide) (SD.c (lvr := [(0, rv (zx x) a0)]) [0] rfl rfl 0 rfl rfl rv_cat) ?_
    refine J_iload_n 0 dX6_stepToMachine_24 rfl ?_
    refine J_iconst (v := (-1)) dX6_stepToMachine_25 rfl ?_
    refine J_icmp_eq (tgt := 34) dX6_stepToMachine_26 rfl ?_ ?_
    · exact J_sub [1] rfl (jX6_stepToMachine_B34 x a0 h7)
    · refine J_iload_n 0 dX6_stepToMachine_29 rfl ?_
      refine J_iconst (v := nI 4) dX6_stepToMachine_30 rfl ?_
      refine J_icmp_lt (tgt := 42) dX6_stepToMachine_31 rfl ?_ ?_
      · refine J_iload_n 0 dX6_stepToMachine_42 rfl ?_
        exact J_iret dX6_stepToMachine_43
      · exact J_sub [1] rfl (jX6_stepToMachine_B34 x a0 h7)
  · refine J_aload_n 0 dX6_stepToMachine_11 rv_is rfl ?_
    refine J_iconst (v := nI 1) dX6_stepToMachine_12 rfl ?_
    refine J_G (fun g9 => ?_)
    refine J.callV (n := 1) (As := [.int (nI 1)]) kc_6 (ctX6_flawed (lx x) (wx x) a0 (nI 1) h4) kw_3_213 kw_3_210 kw_3_211 kw_3_212 kw_1_4 (by decide +kernel) rfl (by decide) (Nat.zero_le _) rfl dX6_stepToMachine_13 g9 (fun v11 h10 => ?_)
    show J x _ _ 16 _ [.int v11] h10 _
    refine J_pop dX6_stepToMachine_16 rfl ?_
    refine J_iconst (v := (-1)) dX6_stepToMachine_17 rfl ?_
    exact J_iret dX6_stepToMachine_18
theorem ctX6_stepToMachine (l : Launch) (w : WT) (a0 : Nat) (h : AH) : CM l w yX6_stepToMachine cX6_stepToMachine 2 (some .int) 6 127 KI [rv (w.1) a0] h (X6_stepToMachine_f a0 h) :=
  CM.of (by decide +kernel) (by simp [lg_sl, rv_cat, cat_I, cat_L, cat_S]) (lv := [(0, rv (w.1) a0)]) (by simp [lv_args, rv_cat, cat_I, cat_L, cat_S]) (fun x hx => by subst hx; exact jX6_stepToMachine x a0 h)
-- FallTrials$Reader.stepToNewName(I)Z
abbrev qX6_stepToNewName : MT := (cX6_stepToNewName, RX6, "stepToNewName", (some .boolean), 6, 127, 2)
def X6_stepToNewName_B37 (a0 : Nat) (h : AH) : Option (Int32 × AH) :=
  G (xc h a0 = 6) <|
  BN (X6_flawed_f a0 (nI 3) h) fun v3 h2 =>
  G (bz v3) <|
  some (v3, h2)
theorem jX6_stepToNewName_B37 (x : CT) (a0 : Nat) (h : AH) : J x qX6_stepToNewName ZI 37 [(0, rv (zx x) a0)] [] h (X6_stepToNewName_B37 a0 h) := by
  unfold X6_stepToNewName_B37
  refine J_aload_n 0 dX6_stepToNewName_37 rv_is rfl ?_
  refine J_iconst (v := nI 3) dX6_stepToNewName_38 rfl ?_
  refine J_G (fun g1 => ?_)
  refine J.callV (n := 1) (As := [.int (nI 3)]) kc_6 (ctX6_flawed (lx x) (wx x) a0 (nI 3) h) kw_3_213 kw_3_210 kw_3_211 kw_3_212 kw_1_4 (by decide +kernel) rfl (by decide) (Nat.zero_le _) rfl dX6_stepToNewName_39 g1 (fun v3 h2 => ?_)
  show J x _ _ 42 _ [.int v3] h2 _
  refine J_G (fun g4 => ?_)
  exact J_zret dX6_stepToNewName_42 g4
def X6_stepToNewName_f (a0 : Nat) (i1 : Int32) (h : AH) : Option (Int32 × AH) :=
  G (xc h a0 = 6) <|
  BN (X6_step_f a0 h) fun _ h2 =>
  G (xc h2 a0 = 6) <|
  BN (X6_isName_f a0 h2) fun v5 h4 =>
  if v5 = 0 then (
    G (xc h4 a0 = 6) <|
    BN (X6_flawed_f a0 (nI 1) h4) fun v25 h24 =>
    G (bz v25) <|
    some (v25, h24)
  ) else (
    G (xc h4 a0 = 6) <|
    BN (X6_meaning_f a0 h4) fun v8 h7 =>
    if v8 = (-1) then (
      G (xc h7 a0 = 6) <|
      G (xc h7 (xR h7 a0 1) = 17) <|
      if (xI h7 a0 3) = (nI (xz h7 (xR h7 a0 1))) then (
        X6_stepToNewName_B37 a0 h7
      ) else (
        G (xc h7 a0 = 6) <|
        BN (X6_spelling_f a0 h7) fun w13 h12 =>
        G (xc h12 (xR h7 a0 1) = 17) <|
        G (gx (xI h7 a0 3) (xz h12 (xR h7 a0 1))) <|
        LT (pL h12 (xR h7 a0 1) (xI h7 a0 3).toNatClampNeg w13) fun h16 =>
        G (xc h16 a0 = 6) <|
        G (xc h16 (xR h16 a0 2) = 16) <|
        G (gx (xI h16 a0 3) (xz h16 (xR h16 a0 2))) <|
        LT (pI h16 (xR h16 a0 2) (xI h16 a0 3).toNatClampNeg i1) fun h20 =>
        G (xc h20 a0 = 6) <|
        LT (pI h20 a0 3 ((xI h20 a0 3) + (nI 1))) fun h22 =>
        some (nI 1, h22)
      )
    ) else (
      X6_stepToNewName_B37 a0 h7
    )
  )
theorem jX6_stepToNewName (x : CT) (a0 : Nat) (i1 : Int32) (h : AH) : J x qX6_stepToNewName ZI 0 [(0, rv (zx x) a0), (1, .int i1)] [] h (X6_stepToNewName_f a0 i1 h) := by
  unfold X6_stepToNewName_f
  refine J_aload_n 0 dX6_stepToNewName_0 rv_is rfl ?_
  refine J_G (fun g1 => ?_)
  refine J.callV (n := 0) (As := []) kc_6 (ctX6_step (lx x) (wx x) a0 h) kw_3_130 kw_3_127 kw_3_128 kw_3_129 kw_1_4 (by decide +kernel) rfl (by decide) (Nat.zero_le _) rfl dX6_stepToNewName_1 g1 (fun _ h2 => ?_)
  show J x _ _ 4 _ [] h2 _
  refine J_aload_n 0 dX6_stepToNewName_4 rv_is rfl ?_
  refine J_G (fun g3 => ?_)
  refine J.callV (n := 0) (As := []) kc_6 (ctX6_isName (lx x) (wx x) a0 h2) kw_3_200 kw_3_197 kw_3_198 kw_3_199 kw_1_4 (by decide +kernel) rfl (by decide) (Nat.zero_le _) rfl dX6_stepToNewName_5 g3 (fun v5 h4 => ?_)
  show J x _ _ 8 _ [.int v5] h4 _
  refine J_if_ne (tgt := 17) dX6_stepToNewName_8 rfl ?_ ?_
  · refine J_aload_n 0 dX6_stepToNewName_17 rv_is rfl ?_
    refine J_G (fun g6 => ?_)
    refine J.callV (n := 0) (As := []) kc_6 (ctX6_meaning (lx x) (wx x) a0 h4) kw_3_217 kw_3_214 kw_3_215 kw_3_216 kw_1_4 (by decide +kernel) rfl (by decide) (Nat.zero_le _) rfl dX6_stepToNewName_18 g6 (fun v8 h7 => ?_)
    show J x _ _ 21 _ [.int v8] h7 _
    refine J_iconst (v := (-1)) dX6_stepToNewName_21 rfl ?_
    refine J_icmp_ne (tgt := 37) dX6_stepToNewName_22 rfl ?_ ?_
    · exact J_sub [0] rfl (jX6_stepToNewName_B37 x a0 h7)
    · refine J_aload_n 0 dX6_stepToNewName_25 rv_is rfl ?_
      refine J_G (fun g9 => ?_)
      refine J_getI kc_6 3 (by decide) rfl rfl kw_1_208 dX6_stepToNewName_26 g9 ?_
      refine J_aload_n 0 dX6_stepToNewName_29 rv_is rfl ?_
      refine J_getR kc_6 1 (by decide) rfl rfl kw_1_206 dX6_stepToNewName_30 g9 ?_
      refine J_G (fun g10 => ?_)
      refine J_alen17 dX6_stepToNewName_33 g10 ?_
      refine J_icmp_ne (tgt := 43) dX6_stepToNewName_34 rfl ?_ ?_
      · refine J_aload_n 0 dX6_stepToNewName_43 rv_is rfl ?_
        refine J_G (fun g11 => ?_)
        refine J_getR kc_6 1 (by decide) rfl rfl kw_1_206 dX6_stepToNewName_44 g11 ?_
        refine J_aload_n 0 dX6_stepToNewName_47 rv_is rfl ?_
        refine J_getI kc_6 3 (by decide) rfl rfl kw_1_208 dX6_stepToNewName_48 g11 ?_
        refine J_aload_n 0 dX6_stepToNewName_51 rv_is rfl ?_
        refine J.callV (n := 0) (As := []) kc_6 (ctX6_spelling (lx x) (wx x) a0 h7) kw_3_221 kw_3_218 kw_3_219 kw_3_220 kw_1_4 (by decide +kernel) rfl (by decide) (by simp [rv_cat, cat_I, cat_L, cat_S]) rfl dX6_stepToNewName_52 g11 (fun w13 h12 => ?_)
        show J x _ _ 55 _ [.long w13, .int (xI h7 a0 3), rv (zx x) (xR h7 a0 1)] h12 _
        refine J_G (fun g14 => ?_)
        refine J_G (fun g15 => ?_)
        refine J_last dX6_stepToNewName_55 g14 g15 ?_
        refine J_LTh (fun h16 => ?_)
        refine J_aload_n 0 dX6_stepToNewName_56 rv_is rfl ?_
        refine J_G (fun g17 => ?_)
        refine J_getR kc_6 2 (by decide) rfl rfl kw_1_207 dX6_stepToNewName_57 g17 ?_
        refine J_aload_n 0 dX6_stepToNewName_60 rv_is rfl ?_
        refine J_getI kc_6 3 (by decide) rfl rfl kw_1_208 dX6_stepToNewName_61 g17 ?_
        refine J_iload_n 1 dX6_stepToNewName_64 rfl ?_
        refine J_G (fun g18 => ?_)
        refine J_G (fun g19 => ?_)
        refine J_iast dX6_stepToNewName_65 g18 g19 ?_
        refine J_LTh (fun h20 => ?_)
        refine J_aload_n 0 dX6_stepToNewName_66 rv_is rfl ?_
        refine J_dup dX6_stepToNewName_67 rv_cat ?_
        refine J_G (fun g21 => ?_)
        refine J_getI kc_6 3 (by decide) rfl rfl kw_1_208 dX6_stepToNewName_68 g21 ?_
        refine J_iconst (v := nI 1) dX6_stepToNewName_71 rfl ?_
        refine J_iadd dX6_stepToNewName_72 ?_
        refine J_putI kc_6 3 (by decide) rfl rfl rfl rfl (Or.inl rfl) kw_1_208 dX6_stepToNewName_73 g21 ?_
        refine J_LTh (fun h22 => ?_)
        refine J_iconst (v := nI 1) dX6_stepToNewName_76 rfl ?_
        exact J_zret dX6_stepToNewName_77 (by decide)
      · exact J_sub [0] rfl (jX6_stepToNewName_B37 x a0 h7)
  · refine J_aload_n 0 dX6_stepToNewName_11 rv_is rfl ?_
    refine J_iconst (v := nI 1) dX6_stepToNewName_12 rfl ?_
    refine J_G (fun g23 => ?_)
    refine J.callV (n := 1) (As := [.int (nI 1)]) kc_6 (ctX6_flawed (lx x) (wx x) a0 (nI 1) h4) kw_3_213 kw_3_210 kw_3_211 kw_3_212 kw_1_4 (by decide +kernel) rfl (by decide) (Nat.zero_le _) rfl dX6_stepToNewName_13 g23 (fun v25 h24 => ?_)
    show J x _ _ 16 _ [.int v25] h24 _
    refine J_G (fun g26 => ?_)
    exact J_zret dX6_stepToNewName_16 g26
theorem ctX6_stepToNewName (l : Launch) (w : WT) (a0 : Nat) (i1 : Int32) (h : AH) : CM l w yX6_stepToNewName cX6_stepToNewName 2 (some .boolean) 6 127 KI [rv (w.1) a0, .int i1] h (X6_stepToNewName_f a0 i1 h) :=
  CM.of (by decide +kernel) (by simp [lg_sl, rv_cat, cat_I, cat_L, cat_S]) (lv := [(0, rv (w.1) a0), (1, .int i1)]) (by simp [lv_args, rv_cat, cat_I, cat_L, cat_S]) (fun x hx => by subst hx; exact jX6_stepToNewName x a0 i1 h)
-- FallTrials$Reader.readRow()Z
abbrev qX6_readRow : MT := (cX6_readRow, RX6, "readRow", (some .boolean), 7, 148, 1)
def X6_readRow_B74 (a0 : Nat) (h : AH) : Option (Int32 × AH) :=
  G (xc h a0 = 6) <|
  G (xc h (xR h a0 10) = 0) <|
  LT (pI h (xR h a0 10) 1 ((xI h (xR h a0 10) 1) + (nI 1))) fun h3 =>
  G (xc h3 a0 = 6) <|
  BN (X6_endsLine_f a0 h3) fun v6 h5 =>
  G (bz v6) <|
  some (v6, h5)
theorem jX6_readRow_B74 (x : CT) (a0 : Nat) (h : AH) : J x qX6_readRow ZI 74 [(0, rv (zx x) a0)] [] h (X6_readRow_B74 a0 h) := by
  unfold X6_readRow_B74
  refine J_aload_n 0 dX6_readRow_74 rv_is rfl ?_
  refine J_G (fun g1 => ?_)
  refine J_getR kc_6 10 (by decide) rfl rfl kw_1_218 dX6_readRow_75 g1 ?_
  refine J_dup dX6_readRow_78 rv_cat ?_
  refine J_G (fun g2 => ?_)
  refine J_getI kc_0 1 (by decide) rfl rfl kw_1_113 dX6_readRow_79 g2 ?_
  refine J_iconst (v := nI 1) dX6_readRow_82 rfl ?_
  refine J_iadd dX6_readRow_83 ?_
  refine J_putI kc_0 1 (by decide) rfl rfl rfl rfl (Or.inl rfl) kw_1_113 dX6_readRow_84 g2 ?_
  refine J_LTh (fun h3 => ?_)
  refine J_aload_n 0 dX6_readRow_87 rv_is rfl ?_
  refine J_G (fun g4 => ?_)
  refine J.callV (n := 0) (As := []) kc_6 (ctX6_endsLine (lx x) (wx x) a0 h3) kw_4_3 kw_4_0 kw_4_1 kw_4_2 kw_1_4 (by decide +kernel) rfl (by decide) (Nat.zero_le _) rfl dX6_readRow_88 g4 (fun v6 h5 => ?_)
  show J x _ _ 91 _ [.int v6] h5 _
  refine J_G (fun g7 => ?_)
  exact J_zret dX6_readRow_91 g7
def X6_readRow_f (a0 : Nat) (h : AH) : Option (Int32 × AH) :=
  G (xc h a0 = 6) <|
  G (xc h (xR h a0 10) = 0) <|
  if (xI h (xR h a0 10) 1) = (nI 10) then (
    G (xc h a0 = 6) <|
    BN (X6_flawed_f a0 (nI 5) h) fun v19 h18 =>
    G (bz v19) <|
    some (v19, h18)
  ) else (
    G (xc h a0 = 6) <|
    G (xc h (xR h a0 10) = 0) <|
    BN (X6_stepToNewName_f a0 ((nI 4) + (xI h (xR h a0 10) 1)) h) fun v6 h5 =>
    if v6 = 0 then (
      some (nI 0, h5)
    ) else (
      G (xc h5 a0 = 6) <|
      BN (X6_step_f a0 h5) fun _ h8 =>
      G (xc h8 a0 = 6) <|
      BN (X6_spells_f a0 5 h8) fun v11 h10 =>
      if v11 = 0 then (
        X6_readRow_B74 a0 h10
      ) else (
        G (xc h10 a0 = 6) <|
        G (xc h10 (xR h10 a0 10) = 0) <|
        LT (pI h10 (xR h10 a0 10) 6 ((xI h10 (xR h10 a0 10) 6) ||| ((nI 1) <<< ((xI h10 (xR h10 a0 10) 1) &&& 31)))) fun h14 =>
        G (xc h14 a0 = 6) <|
        BN (X6_step_f a0 h14) fun _ h16 =>
        X6_readRow_B74 a0 h16
      )
    )
  )
theorem jX6_readRow (x : CT) (a0 : Nat) (h : AH) : J x qX6_readRow ZI 0 [(0, rv (zx x) a0)] [] h (X6_readRow_f a0 h) := by
  unfold X6_readRow_f
  refine J_aload_n 0 dX6_readRow_0 rv_is rfl ?_
  refine J_G (fun g1 => ?_)
  refine J_getR kc_6 10 (by decide) rfl rfl kw_1_218 dX6_readRow_1 g1 ?_
  refine J_G (fun g2 => ?_)
  refine J_getI kc_0 1 (by decide) rfl rfl kw_1_113 dX6_readRow_4 g2 ?_
  refine J_bipush (v := nI 10) dX6_readRow_7 rfl ?_
  refine J_icmp_ne (tgt := 18) dX6_readRow_9 rfl ?_ ?_
  · refine J_aload_n 0 dX6_readRow_18 rv_is rfl ?_
    refine J_iconst (v := nI 4) dX6_readRow_19 rfl ?_
    refine J_aload_n 0 dX6_readRow_20 rv_is rfl ?_
    refine J_G (fun g3 => ?_)
    refine J_getR kc_6 10 (by decide) rfl rfl kw_1_218 dX6_readRow_21 g3 ?_
    refine J_G (fun g4 => ?_)
    refine J_getI kc_0 1 (by decide) rfl rfl kw_1_113 dX6_readRow_24 g4 ?_
    refine J_iadd dX6_readRow_27 ?_
    refine J.callV (n := 1) (As := [.int ((nI 4) + (xI h (xR h a0 10) 1))]) kc_6 (ctX6_stepToNewName (lx x) (wx x) a0 ((nI 4) + (xI h (xR h a0 10) 1)) h) kw_3_239 kw_3_236 kw_3_237 kw_3_238 kw_1_4 (by decide +kernel) rfl (by decide) (Nat.zero_le _) rfl dX6_readRow_28 g3 (fun v6 h5 => ?_)
    show J x _ _ 31 _ [.int v6] h5 _
    refine J_if_ne (tgt := 36) dX6_readRow_31 rfl ?_ ?_
    · refine J_aload_n 0 dX6_readRow_36 rv_is rfl ?_
      refine J_G (fun g7 => ?_)
      refine J.callV (n := 0) (As := []) kc_6 (ctX6_step (lx x) (wx x) a0 h5) kw_3_130 kw_3_127 kw_3_128 kw_3_129 kw_1_4 (by decide +kernel) rfl (by decide) (Nat.zero_le _) rfl dX6_readRow_37 g7 (fun _ h8 => ?_)
      show J x _ _ 40 _ [] h8 _
      refine J_aload_n 0 dX6_readRow_40 rv_is rfl ?_
      refine J_ldcS (i := 5) (tx := "kept") (index := 151) (by decide +kernel) dX6_readRow_41 ?_
      refine J_G (fun g9 => ?_)
      refine J.callV (n := 1) (As := [sv (wx x) 5]) kc_6 (ctX6_spells (lx x) (wx x) a0 5 h8) kw_3_135 kw_3_132 kw_3_133 kw_3_134 kw_1_4 (by decide +kernel) rfl (by decide) (Nat.zero_le _) rfl dX6_readRow_43 g9 (fun v11 h10 => ?_)
      show J x _ _ 46 _ [.int v11] h10 _
      refine J_if_eq (tgt := 74) dX6_readRow_46 rfl ?_ ?_
      · exact (jX6_readRow_B74 x a0 h10)
      · refine J_aload_n 0 dX6_readRow_49 rv_is rfl ?_
        refine J_G (fun g12 => ?_)
        refine J_getR kc_6 10 (by decide) rfl rfl kw_1_218 dX6_readRow_50 g12 ?_
        refine J_dup dX6_readRow_53 rv_cat ?_
        refine J_G (fun g13 => ?_)
        refine J_getI kc_0 6 (by decide) rfl rfl kw_1_136 dX6_readRow_54 g13 ?_
        refine J_iconst (v := nI 1) dX6_readRow_57 rfl ?_
        refine J_aload_n 0 dX6_readRow_58 rv_is rfl ?_
        refine J_getR kc_6 10 (by decide) rfl rfl kw_1_218 dX6_readRow_59 g12 ?_
        refine J_getI kc_0 1 (by decide) rfl rfl kw_1_113 dX6_readRow_62 g13 ?_
        refine J_ishl dX6_readRow_65 ?_
        refine J_ior dX6_readRow_66 ?_
        refine J_putI kc_0 6 (by decide) rfl rfl rfl rfl (Or.inl rfl) kw_1_136 dX6_readRow_67 g13 ?_
        refine J_LTh (fun h14 => ?_)
        refine J_aload_n 0 dX6_readRow_70 rv_is rfl ?_
        refine J_G (fun g15 => ?_)
        refine J.callV (n := 0) (As := []) kc_6 (ctX6_step (lx x) (wx x) a0 h14) kw_3_130 kw_3_127 kw_3_128 kw_3_129 kw_1_4 (by decide +kernel) rfl (by decide) (Nat.zero_le _) rfl dX6_readRow_71 g15 (fun _ h16 => ?_)
        show J x _ _ 74 _ [] h16 _
        exact (jX6_readRow_B74 x a0 h16)
    · refine J_iconst (v := nI 0) dX6_readRow_34 rfl ?_
      exact J_zret dX6_readRow_35 (by decide)
  · refine J_aload_n 0 dX6_readRow_12 rv_is rfl ?_
    refine J_iconst (v := nI 5) dX6_readRow_13 rfl ?_
    refine J_G (fun g17 => ?_)
    refine J.callV (n := 1) (As := [.int (nI 5)]) kc_6 (ctX6_flawed (lx x) (wx x) a0 (nI 5) h) kw_3_213 kw_3_210 kw_3_211 kw_3_212 kw_1_4 (by decide +kernel) rfl (by decide) (Nat.zero_le _) rfl dX6_readRow_14 g17 (fun v19 h18 => ?_)
    show J x _ _ 17 _ [.int v19] h18 _
    refine J_G (fun g20 => ?_)
    exact J_zret dX6_readRow_17 g20
theorem ctX6_readRow (l : Launch) (w : WT) (a0 : Nat) (h : AH) : CM l w yX6_readRow cX6_readRow 1 (some .boolean) 7 148 KI [rv (w.1) a0] h (X6_readRow_f a0 h) :=
  CM.of (by decide +kernel) (by simp [lg_sl, rv_cat, cat_I, cat_L, cat_S]) (lv := [(0, rv (w.1) a0)]) (by simp [lv_args, rv_cat, cat_I, cat_L, cat_S]) (fun x hx => by subst hx; exact jX6_readRow x a0 h)
-- FallTrials$Support.addFacts(IJ)V
abbrev qX7_addFacts : MT := (cX7_addFacts, RX7, "addFacts", none, 1, 24, 7)
def X7_addFacts_B63 (k30 : (Nat → Int64 → Int32 → Int32 → Int32 → AH → Option (Unit × AH))) (a0 : Nat) (l2 : Int64) (i4 : Int32) (i5 : Int32) (i6 : Int32) (h : AH) : Option (Unit × AH) :=
  LT (i6 + nI 1) fun v1 =>
  k30 a0 l2 i4 i5 v1 h
theorem jX7_addFacts_B63 (x : CT) (k30 : (Nat → Int64 → Int32 → Int32 → Int32 → AH → Option (Unit × AH))) (hk30 : ∀ (a0 : Nat) (l2 : Int64) (i4 : Int32) (i5 : Int32) (i6 : Int32) (h : AH), J x qX7_addFacts ZV 30 [(0, rv (zx x) a0), (2, .long l2), (4, .int i4), (5, .int i5), (6, .int i6)] [] h (k30 a0 l2 i4 i5 i6 h)) (a0 : Nat) (l2 : Int64) (i4 : Int32) (i5 : Int32) (i6 : Int32) (h : AH) : J x qX7_addFacts ZV 63 [(0, rv (zx x) a0), (2, .long l2), (4, .int i4), (5, .int i5), (6, .int i6)] [] h (X7_addFacts_B63 k30 a0 l2 i4 i5 i6 h) := by
  unfold X7_addFacts_B63
  refine J_iincL (u := i6 + nI 1) 4 dX7_addFacts_63 rfl rfl (by decide) (SD.a (lvr := [(0, rv (zx x) a0), (2, .long l2), (4, .int i4), (5, .int i5)]) [0, 1, 2, 3] rfl rfl) (fun v1 => ?_)
  refine J_goto (tgt := 30) dX7_addFacts_66 rfl ?_
  exact J_sub [1, 2, 3, 4, 0] rfl (hk30 a0 l2 i4 i5 v1 h)
def X7_addFacts_B30 : Nat → Nat → Int64 → Int32 → Int32 → Int32 → AH → Option (Unit × AH)
  | 0, _, _, _, _, _, _ => none
  | n + 1, a0, l2, i4, i5, i6, h =>
    G (xc h a0 = 7) <|
    G (xc h (xR h a0 2) = 0) <|
    if (xI h (xR h a0 2) 1) ≤ i6 then (
      some ((), h)
    ) else (
      if ((i4 >>> (i6 &&& 31)) &&& (nI 1)) = 0 then (
        X7_addFacts_B63 (X7_addFacts_B30 n) a0 l2 i4 i5 i6 h
      ) else (
        G (xc h a0 = 7) <|
        G (xc h (xR h a0 0) = 17) <|
        G (gx (i5 + i6) (xz h (xR h a0 0))) <|
        LT (pL h (xR h a0 0) (i5 + i6).toNatClampNeg l2) fun h6 =>
        X7_addFacts_B63 (X7_addFacts_B30 n) a0 l2 i4 i5 i6 h6
      )
    )
theorem jX7_addFacts_B30 (x : CT) : ∀ (n : Nat) (a0 : Nat) (l2 : Int64) (i4 : Int32) (i5 : Int32) (i6 : Int32) (h : AH), J x qX7_addFacts ZV 30 [(0, rv (zx x) a0), (2, .long l2), (4, .int i4), (5, .int i5), (6, .int i6)] [] h (X7_addFacts_B30 n a0 l2 i4 i5 i6 h) := by
  intro n
  induction n with
  | zero => intro a0 l2 i4 i5 i6 h; exact J_none
  | succ n ih =>
    intro a0 l2 i4 i5 i6 h
    unfold X7_addFacts_B30
    refine J_iload 4 dX7_addFacts_30 rfl ?_
    refine J_aload_n 0 dX7_addFacts_32 rv_is rfl ?_
    refine J_G (fun g1 => ?_)
    refine J_getR kc_7 2 (by decide) rfl rfl kw_2_219 dX7_addFacts_33 g1 ?_
    refine J_G (fun g2 => ?_)
    refine J_getI kc_0 1 (by decide) rfl rfl kw_1_111 dX7_addFacts_36 g2 ?_
    refine J_icmp_ge (tgt := 69) dX7_addFacts_39 rfl ?_ ?_
    · exact J_vret dX7_addFacts_69
    · refine J_iload 2 dX7_addFacts_42 rfl ?_
      refine J_iload 4 dX7_addFacts_44 rfl ?_
      refine J_ishr dX7_addFacts_46 ?_
      refine J_iconst (v := nI 1) dX7_addFacts_47 rfl ?_
      refine J_iand dX7_addFacts_48 ?_
      refine J_if_eq (tgt := 63) dX7_addFacts_49 rfl ?_ ?_
      · exact (jX7_addFacts_B63 x (X7_addFacts_B30 n) ih a0 l2 i4 i5 i6 h)
      · refine J_aload_n 0 dX7_addFacts_52 rv_is rfl ?_
        refine J_G (fun g3 => ?_)
        refine J_getR kc_7 0 (by decide) rfl rfl kw_2_216 dX7_addFacts_53 g3 ?_
        refine J_iload 3 dX7_addFacts_56 rfl ?_
        refine J_iload 4 dX7_addFacts_58 rfl ?_
        refine J_iadd dX7_addFacts_60 ?_
        refine J_lload_n 1 dX7_addFacts_61 rfl ?_
        refine J_G (fun g4 => ?_)
        refine J_G (fun g5 => ?_)
        refine J_last dX7_addFacts_62 g4 g5 ?_
        refine J_LTh (fun h6 => ?_)
        exact (jX7_addFacts_B63 x (X7_addFacts_B30 n) ih a0 l2 i4 i5 i6 h6)
def X7_addFacts_f (a0 : Nat) (i1 : Int32) (l2 : Int64) (h : AH) : Option (Unit × AH) :=
  G (xc h a0 = 7) <|
  G (xc h (xR h a0 1) = 10) <|
  G (xc h (xR h a0 2) = 0) <|
  BN (X0_factsAt_f (xR h a0 2) i1 (xI h (xR h a0 1) 2) h) fun v5 h4 =>
  BN (X11_cell_f (nI 0) i1 h4) fun v7 h6 =>
  LT (v7 * (nI 10)) fun v8 =>
  X7_addFacts_B30 FU a0 l2 v5 v8 (nI 0) h6
theorem jX7_addFacts (x : CT) (a0 : Nat) (i1 : Int32) (l2 : Int64) (h : AH) : J x qX7_addFacts ZV 0 [(0, rv (zx x) a0), (1, .int i1), (2, .long l2)] [] h (X7_addFacts_f a0 i1 l2 h) := by
  unfold X7_addFacts_f
  refine J_aload_n 0 dX7_addFacts_0 rv_is rfl ?_
  refine J_G (fun g1 => ?_)
  refine J_getR kc_7 2 (by decide) rfl rfl kw_2_219 dX7_addFacts_1 g1 ?_
  refine J_iload_n 1 dX7_addFacts_4 rfl ?_
  refine J_aload_n 0 dX7_addFacts_5 rv_is rfl ?_
  refine J_getR kc_7 1 (by decide) rfl rfl kw_2_218 dX7_addFacts_6 g1 ?_
  refine J_G (fun g2 => ?_)
  refine J_getI kc_10 2 (by decide) rfl rfl kw_2_25 dX7_addFacts_9 g2 ?_
  refine J_G (fun g3 => ?_)
  refine J.callV (n := 2) (As := [.int i1, .int (xI h (xR h a0 1) 2)]) kc_0 (ctX0_factsAt (lx x) (wx x) (xR h a0 2) i1 (xI h (xR h a0 1) 2) h) kw_4_153 kw_5_57 kw_4_151 kw_4_152 kw_1_2 (by decide +kernel) rfl (by decide) (Nat.zero_le _) rfl dX7_addFacts_12 g3 (fun v5 h4 => ?_)
  show J x _ _ 15 _ [.int v5] h4 _
  refine J_istore dX7_addFacts_15 (by decide) (SD.a (lvr := [(0, rv (zx x) a0), (1, .int i1), (2, .long l2)]) [0, 1, 2] rfl rfl) ?_
  refine J_iconst (v := nI 0) dX7_addFacts_17 rfl ?_
  refine J_iload_n 2 dX7_addFacts_18 rfl ?_
  refine J.callSN (n := 2) (As := [.int (nI 0), .int i1]) (ctX11_cell (lx x) (wx x) (nI 0) i1 h4) kw_4_149 kn_7 kw_4_148 kw_1_1 (by decide +kernel) rfl (by decide) (Nat.zero_le _) rfl dX7_addFacts_19 (fun v7 h6 => ?_)
  show J x _ _ 22 _ [.int v7] h6 _
  refine J_bipush (v := nI 10) dX7_addFacts_22 rfl ?_
  refine J_imul dX7_addFacts_24 ?_
  refine J_LTi (fun v8 => ?_)
  refine J_istore dX7_addFacts_25 (by decide) (SD.a (lvr := [(4, .int v5), (0, rv (zx x) a0), (2, .long l2)]) [0, 1, 3] rfl rfl) ?_
  refine J_iconst (v := nI 0) dX7_addFacts_27 rfl ?_
  refine J_istore dX7_addFacts_28 (by decide) (SD.a (lvr := [(5, .int v8), (4, .int v5), (0, rv (zx x) a0), (2, .long l2)]) [0, 1, 2, 3] rfl rfl) ?_
  exact J_sub [3, 4, 2, 1, 0] rfl (jX7_addFacts_B30 x FU a0 l2 v5 v8 (nI 0) h6)
theorem ctX7_addFacts (l : Launch) (w : WT) (a0 : Nat) (i1 : Int32) (l2 : Int64) (h : AH) : CM l w yX7_addFacts cX7_addFacts 7 none 1 24 KV [rv (w.1) a0, .int i1, .long l2] h (X7_addFacts_f a0 i1 l2 h) :=
  CM.of (by decide +kernel) (by simp [lg_sl, rv_cat, cat_I, cat_L, cat_S]) (lv := [(0, rv (w.1) a0), (1, .int i1), (2, .long l2)]) (by simp [lv_args, rv_cat, cat_I, cat_L, cat_S]) (fun x hx => by subst hx; exact jX7_addFacts x a0 i1 l2 h)
