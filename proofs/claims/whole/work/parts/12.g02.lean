-- FallTrials$Reader.step()V
abbrev qX6_step : MT := (cX6_step, RX6, "step", none, 0, 0, 2)
def X6_step_B184 (is0 : Int32) (as1 : Nat) (h : AH) : Option (Unit × AH) :=
  G (xc h as1 = 6) <|
  LT (pI h as1 8 is0) fun h2 =>
  some ((), h2)
theorem jX6_step_B184 (x : CT) (is0 : Int32) (as1 : Nat) (h : AH) : J x qX6_step ZV 184 [] [.int is0, rv (zx x) as1] h (X6_step_B184 is0 as1 h) := by
  unfold X6_step_B184
  refine J_G (fun g1 => ?_)
  refine J_putI kc_6 8 (by decide) rfl rfl rfl rfl (Or.inl rfl) kw_1_215 dX6_step_184 g1 ?_
  refine J_LTh (fun h2 => ?_)
  exact J_vret dX6_step_187
def X6_step_B183 (as0 : Nat) (h : AH) : Option (Unit × AH) :=
  X6_step_B184 (nI 3) as0 h
theorem jX6_step_B183 (x : CT) (as0 : Nat) (h : AH) : J x qX6_step ZV 183 [] [rv (zx x) as0] h (X6_step_B183 as0 h) := by
  unfold X6_step_B183
  refine J_iconst (v := nI 3) dX6_step_183 rfl ?_
  exact (jX6_step_B184 x (nI 3) as0 h)
def X6_step_B157 (a0 : Nat) (h : AH) : Option (Unit × AH) :=
  G (xc h a0 = 6) <|
  LT ((xI h a0 7) - (xI h a0 6)) fun v2 =>
  if v2 < (nI 1) then (
    X6_step_B183 a0 h
  ) else (
    if (nI 8) < v2 then (
      X6_step_B183 a0 h
    ) else (
      X6_step_B184 (nI 2) a0 h
    )
  )
theorem jX6_step_B157 (x : CT) (a0 : Nat) (h : AH) : J x qX6_step ZV 157 [(0, rv (zx x) a0)] [] h (X6_step_B157 a0 h) := by
  unfold X6_step_B157
  refine J_aload_n 0 dX6_step_157 rv_is rfl ?_
  refine J_G (fun g1 => ?_)
  refine J_getI kc_6 7 (by decide) rfl rfl kw_1_214 dX6_step_158 g1 ?_
  refine J_aload_n 0 dX6_step_161 rv_is rfl ?_
  refine J_getI kc_6 6 (by decide) rfl rfl kw_1_213 dX6_step_162 g1 ?_
  refine J_isub dX6_step_165 ?_
  refine J_LTi (fun v2 => ?_)
  refine J_istore_n dX6_step_166 (by decide) (SD.c (lvr := [(0, rv (zx x) a0)]) [0] rfl rfl 0 rfl rfl rv_cat) ?_
  refine J_aload_n 1 dX6_step_167 rv_is rfl ?_
  refine J_iload_n 0 dX6_step_168 rfl ?_
  refine J_iconst (v := nI 1) dX6_step_169 rfl ?_
  refine J_icmp_lt (tgt := 183) dX6_step_170 rfl ?_ ?_
  · exact J_sub [] rfl (jX6_step_B183 x a0 h)
  · refine J_iload_n 0 dX6_step_173 rfl ?_
    refine J_bipush (v := nI 8) dX6_step_174 rfl ?_
    refine J_icmp_gt (tgt := 183) dX6_step_176 rfl ?_ ?_
    · exact J_sub [] rfl (jX6_step_B183 x a0 h)
    · refine J_iconst (v := nI 2) dX6_step_179 rfl ?_
      refine J_goto (tgt := 184) dX6_step_180 rfl ?_
      exact J_sub [] rfl (jX6_step_B184 x (nI 2) a0 h)
def X6_step_B105 : Nat → Nat → AH → Option (Unit × AH)
  | 0, _, _ => none
  | n + 1, a0, h =>
    G (xc h a0 = 6) <|
    if (xI h a0 5) ≤ (xI h a0 7) then (
      X6_step_B157 a0 h
    ) else (
      G (xc h a0 = 6) <|
      G (xc h (xR h a0 0) = 18) <|
      G (gx (xI h a0 7) (xz h (xR h a0 0))) <|
      if (xI h (xR h a0 0) (xI h a0 7).toNatClampNeg) < (nI 97) then (
        X6_step_B157 a0 h
      ) else (
        G (xc h a0 = 6) <|
        G (xc h (xR h a0 0) = 18) <|
        G (gx (xI h a0 7) (xz h (xR h a0 0))) <|
        if (nI 122) < (xI h (xR h a0 0) (xI h a0 7).toNatClampNeg) then (
          X6_step_B157 a0 h
        ) else (
          G (xc h a0 = 6) <|
          LT (pI h a0 7 ((xI h a0 7) + (nI 1))) fun h9 =>
          X6_step_B105 n a0 h9
        )
      )
    )
theorem jX6_step_B105 (x : CT) : ∀ (n : Nat) (a0 : Nat) (h : AH), J x qX6_step ZV 105 [(0, rv (zx x) a0)] [] h (X6_step_B105 n a0 h) := by
  intro n
  induction n with
  | zero => intro a0 h; exact J_none
  | succ n ih =>
    intro a0 h
    unfold X6_step_B105
    refine J_aload_n 0 dX6_step_105 rv_is rfl ?_
    refine J_G (fun g1 => ?_)
    refine J_getI kc_6 7 (by decide) rfl rfl kw_1_214 dX6_step_106 g1 ?_
    refine J_aload_n 0 dX6_step_109 rv_is rfl ?_
    refine J_getI kc_6 5 (by decide) rfl rfl kw_1_211 dX6_step_110 g1 ?_
    refine J_icmp_ge (tgt := 157) dX6_step_113 rfl ?_ ?_
    · exact (jX6_step_B157 x a0 h)
    · refine J_aload_n 0 dX6_step_116 rv_is rfl ?_
      refine J_G (fun g2 => ?_)
      refine J_getR kc_6 0 (by decide) rfl rfl kw_1_205 dX6_step_117 g2 ?_
      refine J_aload_n 0 dX6_step_120 rv_is rfl ?_
      refine J_getI kc_6 7 (by decide) rfl rfl kw_1_214 dX6_step_121 g2 ?_
      refine J_G (fun g3 => ?_)
      refine J_G (fun g4 => ?_)
      refine J_bald dX6_step_124 g3 g4 ?_
      refine J_bipush (v := nI 97) dX6_step_125 rfl ?_
      refine J_icmp_lt (tgt := 157) dX6_step_127 rfl ?_ ?_
      · exact (jX6_step_B157 x a0 h)
      · refine J_aload_n 0 dX6_step_130 rv_is rfl ?_
        refine J_G (fun g5 => ?_)
        refine J_getR kc_6 0 (by decide) rfl rfl kw_1_205 dX6_step_131 g5 ?_
        refine J_aload_n 0 dX6_step_134 rv_is rfl ?_
        refine J_getI kc_6 7 (by decide) rfl rfl kw_1_214 dX6_step_135 g5 ?_
        refine J_G (fun g6 => ?_)
        refine J_G (fun g7 => ?_)
        refine J_bald dX6_step_138 g6 g7 ?_
        refine J_bipush (v := nI 122) dX6_step_139 rfl ?_
        refine J_icmp_gt (tgt := 157) dX6_step_141 rfl ?_ ?_
        · exact (jX6_step_B157 x a0 h)
        · refine J_aload_n 0 dX6_step_144 rv_is rfl ?_
          refine J_dup dX6_step_145 rv_cat ?_
          refine J_G (fun g8 => ?_)
          refine J_getI kc_6 7 (by decide) rfl rfl kw_1_214 dX6_step_146 g8 ?_
          refine J_iconst (v := nI 1) dX6_step_149 rfl ?_
          refine J_iadd dX6_step_150 ?_
          refine J_putI kc_6 7 (by decide) rfl rfl rfl rfl (Or.inl rfl) kw_1_214 dX6_step_151 g8 ?_
          refine J_LTh (fun h9 => ?_)
          refine J_goto (tgt := 105) dX6_step_154 rfl ?_
          exact (ih a0 h9)
def X6_step_B46 (a0 : Nat) (h : AH) : Option (Unit × AH) :=
  G (xc h a0 = 6) <|
  LT (pI h a0 7 (xI h a0 6)) fun h2 =>
  G (xc h2 a0 = 6) <|
  if (xI h2 a0 6) < (xI h2 a0 5) then (
    G (xc h2 a0 = 6) <|
    G (xc h2 (xR h2 a0 0) = 18) <|
    G (gx (xI h2 a0 6) (xz h2 (xR h2 a0 0))) <|
    if (xI h2 (xR h2 a0 0) (xI h2 a0 6).toNatClampNeg) = (nI 59) then (
      G (xc h2 a0 = 6) <|
      LT (pI h2 a0 8 (nI 1)) fun h8 =>
      G (xc h8 a0 = 6) <|
      LT (pI h8 a0 7 ((xI h8 a0 6) + (nI 1))) fun h10 =>
      some ((), h10)
    ) else (
      X6_step_B105 FU a0 h2
    )
  ) else (
    G (xc h2 a0 = 6) <|
    LT (pI h2 a0 8 (nI 0)) fun h12 =>
    some ((), h12)
  )
theorem jX6_step_B46 (x : CT) (a0 : Nat) (h : AH) : J x qX6_step ZV 46 [(0, rv (zx x) a0)] [] h (X6_step_B46 a0 h) := by
  unfold X6_step_B46
  refine J_aload_n 0 dX6_step_46 rv_is rfl ?_
  refine J_aload_n 0 dX6_step_47 rv_is rfl ?_
  refine J_G (fun g1 => ?_)
  refine J_getI kc_6 6 (by decide) rfl rfl kw_1_213 dX6_step_48 g1 ?_
  refine J_putI kc_6 7 (by decide) rfl rfl rfl rfl (Or.inl rfl) kw_1_214 dX6_step_51 g1 ?_
  refine J_LTh (fun h2 => ?_)
  refine J_aload_n 0 dX6_step_54 rv_is rfl ?_
  refine J_G (fun g3 => ?_)
  refine J_getI kc_6 6 (by decide) rfl rfl kw_1_213 dX6_step_55 g3 ?_
  refine J_aload_n 0 dX6_step_58 rv_is rfl ?_
  refine J_getI kc_6 5 (by decide) rfl rfl kw_1_211 dX6_step_59 g3 ?_
  refine J_icmp_lt (tgt := 73) dX6_step_62 rfl ?_ ?_
  · refine J_aload_n 0 dX6_step_73 rv_is rfl ?_
    refine J_G (fun g4 => ?_)
    refine J_getR kc_6 0 (by decide) rfl rfl kw_1_205 dX6_step_74 g4 ?_
    refine J_aload_n 0 dX6_step_77 rv_is rfl ?_
    refine J_getI kc_6 6 (by decide) rfl rfl kw_1_213 dX6_step_78 g4 ?_
    refine J_G (fun g5 => ?_)
    refine J_G (fun g6 => ?_)
    refine J_bald dX6_step_81 g5 g6 ?_
    refine J_bipush (v := nI 59) dX6_step_82 rfl ?_
    refine J_icmp_ne (tgt := 105) dX6_step_84 rfl ?_ ?_
    · exact (jX6_step_B105 x FU a0 h2)
    · refine J_aload_n 0 dX6_step_87 rv_is rfl ?_
      refine J_iconst (v := nI 1) dX6_step_88 rfl ?_
      refine J_G (fun g7 => ?_)
      refine J_putI kc_6 8 (by decide) rfl rfl rfl rfl (Or.inl rfl) kw_1_215 dX6_step_89 g7 ?_
      refine J_LTh (fun h8 => ?_)
      refine J_aload_n 0 dX6_step_92 rv_is rfl ?_
      refine J_aload_n 0 dX6_step_93 rv_is rfl ?_
      refine J_G (fun g9 => ?_)
      refine J_getI kc_6 6 (by decide) rfl rfl kw_1_213 dX6_step_94 g9 ?_
      refine J_iconst (v := nI 1) dX6_step_97 rfl ?_
      refine J_iadd dX6_step_98 ?_
      refine J_putI kc_6 7 (by decide) rfl rfl rfl rfl (Or.inl rfl) kw_1_214 dX6_step_99 g9 ?_
      refine J_LTh (fun h10 => ?_)
      refine J_goto (tgt := 187) dX6_step_102 rfl ?_
      exact J_vret dX6_step_187
  · refine J_aload_n 0 dX6_step_65 rv_is rfl ?_
    refine J_iconst (v := nI 0) dX6_step_66 rfl ?_
    refine J_G (fun g11 => ?_)
    refine J_putI kc_6 8 (by decide) rfl rfl rfl rfl (Or.inl rfl) kw_1_215 dX6_step_67 g11 ?_
    refine J_LTh (fun h12 => ?_)
    refine J_goto (tgt := 187) dX6_step_70 rfl ?_
    exact J_vret dX6_step_187
def X6_step_B8 : Nat → Nat → AH → Option (Unit × AH)
  | 0, _, _ => none
  | n + 1, a0, h =>
    G (xc h a0 = 6) <|
    if (xI h a0 5) ≤ (xI h a0 6) then (
      X6_step_B46 a0 h
    ) else (
      G (xc h a0 = 6) <|
      G (xc h (xR h a0 0) = 18) <|
      G (gx (xI h a0 6) (xz h (xR h a0 0))) <|
      if (xI h (xR h a0 0) (xI h a0 6).toNatClampNeg) = (nI 32) then (
        G (xc h a0 = 6) <|
        LT (pI h a0 6 ((xI h a0 6) + (nI 1))) fun h6 =>
        X6_step_B8 n a0 h6
      ) else (
        X6_step_B46 a0 h
      )
    )
theorem jX6_step_B8 (x : CT) : ∀ (n : Nat) (a0 : Nat) (h : AH), J x qX6_step ZV 8 [(0, rv (zx x) a0)] [] h (X6_step_B8 n a0 h) := by
  intro n
  induction n with
  | zero => intro a0 h; exact J_none
  | succ n ih =>
    intro a0 h
    unfold X6_step_B8
    refine J_aload_n 0 dX6_step_8 rv_is rfl ?_
    refine J_G (fun g1 => ?_)
    refine J_getI kc_6 6 (by decide) rfl rfl kw_1_213 dX6_step_9 g1 ?_
    refine J_aload_n 0 dX6_step_12 rv_is rfl ?_
    refine J_getI kc_6 5 (by decide) rfl rfl kw_1_211 dX6_step_13 g1 ?_
    refine J_icmp_ge (tgt := 46) dX6_step_16 rfl ?_ ?_
    · exact (jX6_step_B46 x a0 h)
    · refine J_aload_n 0 dX6_step_19 rv_is rfl ?_
      refine J_G (fun g2 => ?_)
      refine J_getR kc_6 0 (by decide) rfl rfl kw_1_205 dX6_step_20 g2 ?_
      refine J_aload_n 0 dX6_step_23 rv_is rfl ?_
      refine J_getI kc_6 6 (by decide) rfl rfl kw_1_213 dX6_step_24 g2 ?_
      refine J_G (fun g3 => ?_)
      refine J_G (fun g4 => ?_)
      refine J_bald dX6_step_27 g3 g4 ?_
      refine J_bipush (v := nI 32) dX6_step_28 rfl ?_
      refine J_icmp_ne (tgt := 46) dX6_step_30 rfl ?_ ?_
      · exact (jX6_step_B46 x a0 h)
      · refine J_aload_n 0 dX6_step_33 rv_is rfl ?_
        refine J_dup dX6_step_34 rv_cat ?_
        refine J_G (fun g5 => ?_)
        refine J_getI kc_6 6 (by decide) rfl rfl kw_1_213 dX6_step_35 g5 ?_
        refine J_iconst (v := nI 1) dX6_step_38 rfl ?_
        refine J_iadd dX6_step_39 ?_
        refine J_putI kc_6 6 (by decide) rfl rfl rfl rfl (Or.inl rfl) kw_1_213 dX6_step_40 g5 ?_
        refine J_LTh (fun h6 => ?_)
        refine J_goto (tgt := 8) dX6_step_43 rfl ?_
        exact (ih a0 h6)
def X6_step_f (a0 : Nat) (h : AH) : Option (Unit × AH) :=
  G (xc h a0 = 6) <|
  LT (pI h a0 6 (xI h a0 7)) fun h2 =>
  X6_step_B8 FU a0 h2
theorem jX6_step (x : CT) (a0 : Nat) (h : AH) : J x qX6_step ZV 0 [(0, rv (zx x) a0)] [] h (X6_step_f a0 h) := by
  unfold X6_step_f
  refine J_aload_n 0 dX6_step_0 rv_is rfl ?_
  refine J_aload_n 0 dX6_step_1 rv_is rfl ?_
  refine J_G (fun g1 => ?_)
  refine J_getI kc_6 7 (by decide) rfl rfl kw_1_214 dX6_step_2 g1 ?_
  refine J_putI kc_6 6 (by decide) rfl rfl rfl rfl (Or.inl rfl) kw_1_213 dX6_step_5 g1 ?_
  refine J_LTh (fun h2 => ?_)
  exact (jX6_step_B8 x FU a0 h2)
theorem ctX6_step (l : Launch) (w : WT) (a0 : Nat) (h : AH) : CM l w yX6_step cX6_step 2 none 0 0 KV [rv (w.1) a0] h (X6_step_f a0 h) :=
  CM.of (by decide +kernel) (by simp [lg_sl, rv_cat, cat_I, cat_L, cat_S]) (lv := [(0, rv (w.1) a0)]) (by simp [lv_args, rv_cat, cat_I, cat_L, cat_S]) (fun x hx => by subst hx; exact jX6_step x a0 h)
-- FallTrials$Reader.spells(Ljava/lang/String;)Z
abbrev qX6_spells : MT := (cX6_spells, RX6, "spells", (some .boolean), 4, 85, 3)
def X6_spells_B28 : Nat → Nat → Nat → Int32 → AH → Option (Int32 × AH)
  | 0, _, _, _, _ => none
  | n + 1, a0, s1, i2, h =>
    G (s1 < strT.length) <|
    BN (some (nI (strL s1), h)) fun v3 h2 =>
    if v3 ≤ i2 then (
      some (nI 1, h2)
    ) else (
      G (xc h2 a0 = 6) <|
      G (xc h2 (xR h2 a0 0) = 18) <|
      G (gx ((xI h2 a0 6) + i2) (xz h2 (xR h2 a0 0))) <|
      G (s1 < strT.length) <|
      BN (G (gx i2 (strL s1)) (some (strC s1 i2, h2))) fun v9 h8 =>
      if (xI h2 (xR h2 a0 0) ((xI h2 a0 6) + i2).toNatClampNeg) = v9 then (
        LT (i2 + nI 1) fun v10 =>
        X6_spells_B28 n a0 s1 v10 h8
      ) else (
        some (nI 0, h8)
      )
    )
theorem jX6_spells_B28 (x : CT) : ∀ (n : Nat) (a0 : Nat) (s1 : Nat) (i2 : Int32) (h : AH), J x qX6_spells ZI 28 [(0, rv (zx x) a0), (1, sv (wx x) s1), (2, .int i2)] [] h (X6_spells_B28 n a0 s1 i2 h) := by
  intro n
  induction n with
  | zero => intro a0 s1 i2 h; exact J_none
  | succ n ih =>
    intro a0 s1 i2 h
    unfold X6_spells_B28
    refine J_iload_n 2 dX6_spells_28 rfl ?_
    refine J_aload_n 1 dX6_spells_29 sv_is rfl ?_
    refine J_G (fun g1 => ?_)
    refine J.callVS (n := 0) (As := []) g1 (ctJ0_length_8abf5 (lx x) (wx x) g1 h) kw_3_139 kw_3_136 kw_3_137 kw_3_138 kw_1_20 (by decide +kernel) rfl (by decide) (by simp [rv_cat, cat_I, cat_L, cat_S]) rfl dX6_spells_30 (fun v3 h2 => ?_)
    show J x _ _ 33 _ [.int v3, .int i2] h2 _
    refine J_icmp_ge (tgt := 63) dX6_spells_33 rfl ?_ ?_
    · refine J_iconst (v := nI 1) dX6_spells_63 rfl ?_
      exact J_zret dX6_spells_64 (by decide)
    · refine J_aload_n 0 dX6_spells_36 rv_is rfl ?_
      refine J_G (fun g4 => ?_)
      refine J_getR kc_6 0 (by decide) rfl rfl kw_1_205 dX6_spells_37 g4 ?_
      refine J_aload_n 0 dX6_spells_40 rv_is rfl ?_
      refine J_getI kc_6 6 (by decide) rfl rfl kw_1_213 dX6_spells_41 g4 ?_
      refine J_iload_n 2 dX6_spells_44 rfl ?_
      refine J_iadd dX6_spells_45 ?_
      refine J_G (fun g5 => ?_)
      refine J_G (fun g6 => ?_)
      refine J_bald dX6_spells_46 g5 g6 ?_
      refine J_aload_n 1 dX6_spells_47 sv_is rfl ?_
      refine J_iload_n 2 dX6_spells_48 rfl ?_
      refine J_G (fun g7 => ?_)
      refine J.callVS (n := 1) (As := [.int i2]) g7 (ctJ0_charAt_5068e (lx x) (wx x) g7 i2 h2) kw_3_149 kw_3_146 kw_3_147 kw_3_148 kw_1_20 (by decide +kernel) rfl (by decide) (by simp [rv_cat, cat_I, cat_L, cat_S]) rfl dX6_spells_49 (fun v9 h8 => ?_)
      show J x _ _ 52 _ [.int v9, .int (xI h2 (xR h2 a0 0) ((xI h2 a0 6) + i2).toNatClampNeg)] h8 _
      refine J_icmp_eq (tgt := 57) dX6_spells_52 rfl ?_ ?_
      · refine J_iincL (u := i2 + nI 1) 2 dX6_spells_57 rfl rfl (by decide) (SD.a (lvr := [(0, rv (zx x) a0), (1, sv (wx x) s1)]) [0, 1] rfl rfl) (fun v10 => ?_)
        refine J_goto (tgt := 28) dX6_spells_60 rfl ?_
        exact J_sub [1, 2, 0] rfl (ih a0 s1 v10 h8)
      · refine J_iconst (v := nI 0) dX6_spells_55 rfl ?_
        exact J_zret dX6_spells_56 (by decide)
def X6_spells_f (a0 : Nat) (s1 : Nat) (h : AH) : Option (Int32 × AH) :=
  G (xc h a0 = 6) <|
  if (xI h a0 8) = (nI 2) then (
    G (xc h a0 = 6) <|
    G (s1 < strT.length) <|
    BN (some (nI (strL s1), h)) fun v5 h4 =>
    if ((xI h a0 7) - (xI h a0 6)) = v5 then (
      X6_spells_B28 FU a0 s1 (nI 0) h4
    ) else (
      some (nI 0, h4)
    )
  ) else (
    some (nI 0, h)
  )
theorem jX6_spells (x : CT) (a0 : Nat) (s1 : Nat) (h : AH) : J x qX6_spells ZI 0 [(0, rv (zx x) a0), (1, sv (wx x) s1)] [] h (X6_spells_f a0 s1 h) := by
  unfold X6_spells_f
  refine J_aload_n 0 dX6_spells_0 rv_is rfl ?_
  refine J_G (fun g1 => ?_)
  refine J_getI kc_6 8 (by decide) rfl rfl kw_1_215 dX6_spells_1 g1 ?_
  refine J_iconst (v := nI 2) dX6_spells_4 rfl ?_
  refine J_icmp_ne (tgt := 24) dX6_spells_5 rfl ?_ ?_
  · refine J_iconst (v := nI 0) dX6_spells_24 rfl ?_
    exact J_zret dX6_spells_25 (by decide)
  · refine J_aload_n 0 dX6_spells_8 rv_is rfl ?_
    refine J_G (fun g2 => ?_)
    refine J_getI kc_6 7 (by decide) rfl rfl kw_1_214 dX6_spells_9 g2 ?_
    refine J_aload_n 0 dX6_spells_12 rv_is rfl ?_
    refine J_getI kc_6 6 (by decide) rfl rfl kw_1_213 dX6_spells_13 g2 ?_
    refine J_isub dX6_spells_16 ?_
    refine J_aload_n 1 dX6_spells_17 sv_is rfl ?_
    refine J_G (fun g3 => ?_)
    refine J.callVS (n := 0) (As := []) g3 (ctJ0_length_8abf5 (lx x) (wx x) g3 h) kw_3_139 kw_3_136 kw_3_137 kw_3_138 kw_1_20 (by decide +kernel) rfl (by decide) (by simp [rv_cat, cat_I, cat_L, cat_S]) rfl dX6_spells_18 (fun v5 h4 => ?_)
    show J x _ _ 21 _ [.int v5, .int ((xI h a0 7) - (xI h a0 6))] h4 _
    refine J_icmp_eq (tgt := 26) dX6_spells_21 rfl ?_ ?_
    · refine J_iconst (v := nI 0) dX6_spells_26 rfl ?_
      refine J_istore_n dX6_spells_27 (by decide) (SD.a (lvr := [(0, rv (zx x) a0), (1, sv (wx x) s1)]) [0, 1] rfl rfl) ?_
      exact J_sub [1, 2, 0] rfl (jX6_spells_B28 x FU a0 s1 (nI 0) h4)
    · refine J_iconst (v := nI 0) dX6_spells_24 rfl ?_
      exact J_zret dX6_spells_25 (by decide)
theorem ctX6_spells (l : Launch) (w : WT) (a0 : Nat) (s1 : Nat) (h : AH) : CM l w yX6_spells cX6_spells 3 (some .boolean) 4 85 KI [rv (w.1) a0, sv (w) s1] h (X6_spells_f a0 s1 h) :=
  CM.of (by decide +kernel) (by simp [lg_sl, rv_cat, cat_I, cat_L, cat_S]) (lv := [(0, rv (w.1) a0), (1, sv (w) s1)]) (by simp [lv_args, rv_cat, cat_I, cat_L, cat_S]) (fun x hx => by subst hx; exact jX6_spells x a0 s1 h)
-- FallTrials$Reader.isName()Z
abbrev qX6_isName : MT := (cX6_isName, RX6, "isName", (some .boolean), 5, 107, 1)
def X6_isName_f (a0 : Nat) (h : AH) : Option (Int32 × AH) :=
  G (xc h a0 = 6) <|
  if (xI h a0 8) = (nI 2) then (
    G (xc h a0 = 6) <|
    BN (X6_spells_f a0 6 h) fun v4 h3 =>
    if v4 = 0 then (
      G (xc h3 a0 = 6) <|
      BN (X6_spells_f a0 13 h3) fun v7 h6 =>
      if v7 = 0 then (
        G (xc h6 a0 = 6) <|
        BN (X6_spells_f a0 2 h6) fun v10 h9 =>
        if v10 = 0 then (
          G (xc h9 a0 = 6) <|
          BN (X6_spells_f a0 14 h9) fun v13 h12 =>
          if v13 = 0 then (
            G (xc h12 a0 = 6) <|
            BN (X6_spells_f a0 15 h12) fun v16 h15 =>
            if v16 = 0 then (
              G (xc h15 a0 = 6) <|
              BN (X6_spells_f a0 12 h15) fun v19 h18 =>
              if v19 = 0 then (
                G (xc h18 a0 = 6) <|
                BN (X6_spells_f a0 9 h18) fun v22 h21 =>
                if v22 = 0 then (
                  G (xc h21 a0 = 6) <|
                  BN (X6_spells_f a0 0 h21) fun v25 h24 =>
                  if v25 = 0 then (
                    G (xc h24 a0 = 6) <|
                    BN (X6_spells_f a0 11 h24) fun v28 h27 =>
                    if v28 = 0 then (
                      G (xc h27 a0 = 6) <|
                      BN (X6_spells_f a0 1 h27) fun v31 h30 =>
                      if v31 = 0 then (
                        G (xc h30 a0 = 6) <|
                        BN (X6_spells_f a0 4 h30) fun v34 h33 =>
                        if v34 = 0 then (
                          some (nI 1, h33)
                        ) else (
                          some (nI 0, h33)
                        )
                      ) else (
                        some (nI 0, h30)
                      )
                    ) else (
                      some (nI 0, h27)
                    )
                  ) else (
                    some (nI 0, h24)
                  )
                ) else (
                  some (nI 0, h21)
                )
              ) else (
                some (nI 0, h18)
              )
            ) else (
              some (nI 0, h15)
            )
          ) else (
            some (nI 0, h12)
          )
        ) else (
          some (nI 0, h9)
        )
      ) else (
        some (nI 0, h6)
      )
    ) else (
      some (nI 0, h3)
    )
  ) else (
    some (nI 0, h)
  )
theorem jX6_isName (x : CT) (a0 : Nat) (h : AH) : J x qX6_isName ZI 0 [(0, rv (zx x) a0)] [] h (X6_isName_f a0 h) := by
  unfold X6_isName_f
  refine J_aload_n 0 dX6_isName_0 rv_is rfl ?_
  refine J_G (fun g1 => ?_)
  refine J_getI kc_6 8 (by decide) rfl rfl kw_1_215 dX6_isName_1 g1 ?_
  refine J_iconst (v := nI 2) dX6_isName_4 rfl ?_
  refine J_icmp_ne (tgt := 111) dX6_isName_5 rfl ?_ ?_
  · refine J_iconst (v := nI 0) dX6_isName_111 rfl ?_
    exact J_zret dX6_isName_112 (by decide)
  · refine J_aload_n 0 dX6_isName_8 rv_is rfl ?_
    refine J_ldcS (i := 6) (tx := "machine") (index := 70) (by decide +kernel) dX6_isName_9 ?_
    refine J_G (fun g2 => ?_)
    refine J.callV (n := 1) (As := [sv (wx x) 6]) kc_6 (ctX6_spells (lx x) (wx x) a0 6 h) kw_3_135 kw_3_132 kw_3_133 kw_3_134 kw_1_4 (by decide +kernel) rfl (by decide) (Nat.zero_le _) rfl dX6_isName_11 g2 (fun v4 h3 => ?_)
    show J x _ _ 14 _ [.int v4] h3 _
    refine J_if_ne (tgt := 111) dX6_isName_14 rfl ?_ ?_
    · refine J_iconst (v := nI 0) dX6_isName_111 rfl ?_
      exact J_zret dX6_isName_112 (by decide)
    · refine J_aload_n 0 dX6_isName_17 rv_is rfl ?_
      refine J_ldcS (i := 13) (tx := "row") (index := 75) (by decide +kernel) dX6_isName_18 ?_
      refine J_G (fun g5 => ?_)
      refine J.callV (n := 1) (As := [sv (wx x) 13]) kc_6 (ctX6_spells (lx x) (wx x) a0 13 h3) kw_3_135 kw_3_132 kw_3_133 kw_3_134 kw_1_4 (by decide +kernel) rfl (by decide) (Nat.zero_le _) rfl dX6_isName_20 g5 (fun v7 h6 => ?_)
      show J x _ _ 23 _ [.int v7] h6 _
      refine J_if_ne (tgt := 111) dX6_isName_23 rfl ?_ ?_
      · refine J_iconst (v := nI 0) dX6_isName_111 rfl ?_
        exact J_zret dX6_isName_112 (by decide)
      · refine J_aload_n 0 dX6_isName_26 rv_is rfl ?_
        refine J_ldcS (i := 2) (tx := "fact") (index := 80) (by decide +kernel) dX6_isName_27 ?_
        refine J_G (fun g8 => ?_)
        refine J.callV (n := 1) (As := [sv (wx x) 2]) kc_6 (ctX6_spells (lx x) (wx x) a0 2 h6) kw_3_135 kw_3_132 kw_3_133 kw_3_134 kw_1_4 (by decide +kernel) rfl (by decide) (Nat.zero_le _) rfl dX6_isName_29 g8 (fun v10 h9 => ?_)
        show J x _ _ 32 _ [.int v10] h9 _
        refine J_if_ne (tgt := 111) dX6_isName_32 rfl ?_ ?_
        · refine J_iconst (v := nI 0) dX6_isName_111 rfl ?_
          exact J_zret dX6_isName_112 (by decide)
        · refine J_aload_n 0 dX6_isName_35 rv_is rfl ?_
          refine J_ldcS (i := 14) (tx := "rule") (index := 85) (by decide +kernel) dX6_isName_36 ?_
          refine J_G (fun g11 => ?_)
          refine J.callV (n := 1) (As := [sv (wx x) 14]) kc_6 (ctX6_spells (lx x) (wx x) a0 14 h9) kw_3_135 kw_3_132 kw_3_133 kw_3_134 kw_1_4 (by decide +kernel) rfl (by decide) (Nat.zero_le _) rfl dX6_isName_38 g11 (fun v13 h12 => ?_)
          show J x _ _ 41 _ [.int v13] h12 _
          refine J_if_ne (tgt := 111) dX6_isName_41 rfl ?_ ?_
          · refine J_iconst (v := nI 0) dX6_isName_111 rfl ?_
            exact J_zret dX6_isName_112 (by decide)
          · refine J_aload_n 0 dX6_isName_44 rv_is rfl ?_
            refine J_ldcS (i := 15) (tx := "send") (index := 90) (by decide +kernel) dX6_isName_45 ?_
            refine J_G (fun g14 => ?_)
            refine J.callV (n := 1) (As := [sv (wx x) 15]) kc_6 (ctX6_spells (lx x) (wx x) a0 15 h12) kw_3_135 kw_3_132 kw_3_133 kw_3_134 kw_1_4 (by decide +kernel) rfl (by decide) (Nat.zero_le _) rfl dX6_isName_47 g14 (fun v16 h15 => ?_)
            show J x _ _ 50 _ [.int v16] h15 _
            refine J_if_ne (tgt := 111) dX6_isName_50 rfl ?_ ?_
            · refine J_iconst (v := nI 0) dX6_isName_111 rfl ?_
              exact J_zret dX6_isName_112 (by decide)
            · refine J_aload_n 0 dX6_isName_53 rv_is rfl ?_
              refine J_ldcS (i := 12) (tx := "promise") (index := 60) (by decide +kernel) dX6_isName_54 ?_
              refine J_G (fun g17 => ?_)
              refine J.callV (n := 1) (As := [sv (wx x) 12]) kc_6 (ctX6_spells (lx x) (wx x) a0 12 h15) kw_3_135 kw_3_132 kw_3_133 kw_3_134 kw_1_4 (by decide +kernel) rfl (by decide) (Nat.zero_le _) rfl dX6_isName_56 g17 (fun v19 h18 => ?_)
              show J x _ _ 59 _ [.int v19] h18 _
              refine J_if_ne (tgt := 111) dX6_isName_59 rfl ?_ ?_
              · refine J_iconst (v := nI 0) dX6_isName_111 rfl ?_
                exact J_zret dX6_isName_112 (by decide)
              · refine J_aload_n 0 dX6_isName_62 rv_is rfl ?_
                refine J_ldcS (i := 9) (tx := "not") (index := 115) (by decide +kernel) dX6_isName_63 ?_
                refine J_G (fun g20 => ?_)
                refine J.callV (n := 1) (As := [sv (wx x) 9]) kc_6 (ctX6_spells (lx x) (wx x) a0 9 h18) kw_3_135 kw_3_132 kw_3_133 kw_3_134 kw_1_4 (by decide +kernel) rfl (by decide) (Nat.zero_le _) rfl dX6_isName_65 g20 (fun v22 h21 => ?_)
                show J x _ _ 68 _ [.int v22] h21 _
                refine J_if_ne (tgt := 111) dX6_isName_68 rfl ?_ ?_
                · refine J_iconst (v := nI 0) dX6_isName_111 rfl ?_
                  exact J_zret dX6_isName_112 (by decide)
                · refine J_aload_n 0 dX6_isName_71 rv_is rfl ?_
                  refine J_ldcS (i := 0) (tx := "and") (index := 117) (by decide +kernel) dX6_isName_72 ?_
                  refine J_G (fun g23 => ?_)
                  refine J.callV (n := 1) (As := [sv (wx x) 0]) kc_6 (ctX6_spells (lx x) (wx x) a0 0 h21) kw_3_135 kw_3_132 kw_3_133 kw_3_134 kw_1_4 (by decide +kernel) rfl (by decide) (Nat.zero_le _) rfl dX6_isName_74 g23 (fun v25 h24 => ?_)
                  show J x _ _ 77 _ [.int v25] h24 _
                  refine J_if_ne (tgt := 111) dX6_isName_77 rfl ?_ ?_
                  · refine J_iconst (v := nI 0) dX6_isName_111 rfl ?_
                    exact J_zret dX6_isName_112 (by decide)
                  · refine J_aload_n 0 dX6_isName_80 rv_is rfl ?_
                    refine J_ldcS (i := 11) (tx := "or") (index := 119) (by decide +kernel) dX6_isName_81 ?_
                    refine J_G (fun g26 => ?_)
                    refine J.callV (n := 1) (As := [sv (wx x) 11]) kc_6 (ctX6_spells (lx x) (wx x) a0 11 h24) kw_3_135 kw_3_132 kw_3_133 kw_3_134 kw_1_4 (by decide +kernel) rfl (by decide) (Nat.zero_le _) rfl dX6_isName_83 g26 (fun v28 h27 => ?_)
                    show J x _ _ 86 _ [.int v28] h27 _
                    refine J_if_ne (tgt := 111) dX6_isName_86 rfl ?_ ?_
                    · refine J_iconst (v := nI 0) dX6_isName_111 rfl ?_
                      exact J_zret dX6_isName_112 (by decide)
                    · refine J_aload_n 0 dX6_isName_89 rv_is rfl ?_
                      refine J_ldcS (i := 1) (tx := "at") (index := 121) (by decide +kernel) dX6_isName_90 ?_
                      refine J_G (fun g29 => ?_)
                      refine J.callV (n := 1) (As := [sv (wx x) 1]) kc_6 (ctX6_spells (lx x) (wx x) a0 1 h27) kw_3_135 kw_3_132 kw_3_133 kw_3_134 kw_1_4 (by decide +kernel) rfl (by decide) (Nat.zero_le _) rfl dX6_isName_92 g29 (fun v31 h30 => ?_)
                      show J x _ _ 95 _ [.int v31] h30 _
                      refine J_if_ne (tgt := 111) dX6_isName_95 rfl ?_ ?_
                      · refine J_iconst (v := nI 0) dX6_isName_111 rfl ?_
                        exact J_zret dX6_isName_112 (by decide)
                      · refine J_aload_n 0 dX6_isName_98 rv_is rfl ?_
                        refine J_ldcS (i := 4) (tx := "if") (index := 122) (by decide +kernel) dX6_isName_99 ?_
                        refine J_G (fun g32 => ?_)
                        refine J.callV (n := 1) (As := [sv (wx x) 4]) kc_6 (ctX6_spells (lx x) (wx x) a0 4 h30) kw_3_135 kw_3_132 kw_3_133 kw_3_134 kw_1_4 (by decide +kernel) rfl (by decide) (Nat.zero_le _) rfl dX6_isName_101 g32 (fun v34 h33 => ?_)
                        show J x _ _ 104 _ [.int v34] h33 _
                        refine J_if_ne (tgt := 111) dX6_isName_104 rfl ?_ ?_
                        · refine J_iconst (v := nI 0) dX6_isName_111 rfl ?_
                          exact J_zret dX6_isName_112 (by decide)
                        · refine J_iconst (v := nI 1) dX6_isName_107 rfl ?_
                          refine J_goto (tgt := 112) dX6_isName_108 rfl ?_
                          exact J_zret dX6_isName_112 (by decide)
theorem ctX6_isName (l : Launch) (w : WT) (a0 : Nat) (h : AH) : CM l w yX6_isName cX6_isName 1 (some .boolean) 5 107 KI [rv (w.1) a0] h (X6_isName_f a0 h) :=
  CM.of (by decide +kernel) (by simp [lg_sl, rv_cat, cat_I, cat_L, cat_S]) (lv := [(0, rv (w.1) a0)]) (by simp [lv_args, rv_cat, cat_I, cat_L, cat_S]) (fun x hx => by subst hx; exact jX6_isName x a0 h)
-- FallTrials$Reader.flawed(I)Z
abbrev qX6_flawed : MT := (cX6_flawed, RX6, "flawed", (some .boolean), 0, 0, 2)
def X6_flawed_f (a0 : Nat) (i1 : Int32) (h : AH) : Option (Int32 × AH) :=
  G (xc h a0 = 6) <|
  LT (pI h a0 9 i1) fun h2 =>
  some (nI 0, h2)
theorem jX6_flawed (x : CT) (a0 : Nat) (i1 : Int32) (h : AH) : J x qX6_flawed ZI 0 [(0, rv (zx x) a0), (1, .int i1)] [] h (X6_flawed_f a0 i1 h) := by
  unfold X6_flawed_f
  refine J_aload_n 0 dX6_flawed_0 rv_is rfl ?_
  refine J_iload_n 1 dX6_flawed_1 rfl ?_
  refine J_G (fun g1 => ?_)
  refine J_putI kc_6 9 (by decide) rfl rfl rfl rfl (Or.inl rfl) kw_1_216 dX6_flawed_2 g1 ?_
  refine J_LTh (fun h2 => ?_)
  refine J_iconst (v := nI 0) dX6_flawed_5 rfl ?_
  exact J_zret dX6_flawed_6 (by decide)
theorem ctX6_flawed (l : Launch) (w : WT) (a0 : Nat) (i1 : Int32) (h : AH) : CM l w yX6_flawed cX6_flawed 2 (some .boolean) 0 0 KI [rv (w.1) a0, .int i1] h (X6_flawed_f a0 i1 h) :=
  CM.of (by decide +kernel) (by simp [lg_sl, rv_cat, cat_I, cat_L, cat_S]) (lv := [(0, rv (w.1) a0), (1, .int i1)]) (by simp [lv_args, rv_cat, cat_I, cat_L, cat_S]) (fun x hx => by subst hx; exact jX6_flawed x a0 i1 h)
-- FallTrials$Reader.spelling()J
abbrev qX6_spelling : MT := (cX6_spelling, RX6, "spelling", (some .long), 0, 0, 4)
def X6_spelling_B7 : Nat → Nat → Int64 → Int32 → AH → Option (Int64 × AH)
  | 0, _, _, _, _ => none
  | n + 1, a0, l1, i3, h =>
    G (xc h a0 = 6) <|
    if (xI h a0 7) ≤ i3 then (
      some (l1, h)
    ) else (
      G (xc h a0 = 6) <|
      G (xc h (xR h a0 0) = 18) <|
      G (gx i3 (xz h (xR h a0 0))) <|
      LT ((l1 * (32)) + ((((xI h (xR h a0 0) i3.toNatClampNeg) - (nI 97)) + (nI 1)).toInt64)) fun w5 =>
      LT (i3 + nI 1) fun v6 =>
      X6_spelling_B7 n a0 w5 v6 h
    )
theorem jX6_spelling_B7 (x : CT) : ∀ (n : Nat) (a0 : Nat) (l1 : Int64) (i3 : Int32) (h : AH), J x qX6_spelling ZL 7 [(0, rv (zx x) a0), (1, .long l1), (3, .int i3)] [] h (X6_spelling_B7 n a0 l1 i3 h) := by
  intro n
  induction n with
  | zero => intro a0 l1 i3 h; exact J_none
  | succ n ih =>
    intro a0 l1 i3 h
    unfold X6_spelling_B7
    refine J_iload_n 2 dX6_spelling_7 rfl ?_
    refine J_aload_n 0 dX6_spelling_8 rv_is rfl ?_
    refine J_G (fun g1 => ?_)
    refine J_getI kc_6 7 (by decide) rfl rfl kw_1_214 dX6_spelling_9 g1 ?_
    refine J_icmp_ge (tgt := 40) dX6_spelling_12 rfl ?_ ?_
    · refine J_lload_n 1 dX6_spelling_40 rfl ?_
      exact J_lret dX6_spelling_41
    · refine J_lload_n 1 dX6_spelling_15 rfl ?_
      refine J_ldc2 (v := (32)) dX6_spelling_16 kw_3_222 ?_
      refine J_lmul dX6_spelling_19 ?_
      refine J_aload_n 0 dX6_spelling_20 rv_is rfl ?_
      refine J_G (fun g2 => ?_)
      refine J_getR kc_6 0 (by decide) rfl rfl kw_1_205 dX6_spelling_21 g2 ?_
      refine J_iload_n 2 dX6_spelling_24 rfl ?_
      refine J_G (fun g3 => ?_)
      refine J_G (fun g4 => ?_)
      refine J_bald dX6_spelling_25 g3 g4 ?_
      refine J_bipush (v := nI 97) dX6_spelling_26 rfl ?_
      refine J_isub dX6_spelling_28 ?_
      refine J_iconst (v := nI 1) dX6_spelling_29 rfl ?_
      refine J_iadd dX6_spelling_30 ?_
      refine J_i2l dX6_spelling_31 ?_
      refine J_ladd dX6_spelling_32 ?_
      refine J_LTl (fun w5 => ?_)
      refine J_lstore_n dX6_spelling_33 (by decide) (SD.c (lvr := [(0, rv (zx x) a0), (3, .int i3)]) [0, 2] rfl rfl 0 rfl rfl rv_cat) rfl ?_
      refine J_iincL (u := i3 + nI 1) 2 dX6_spelling_34 rfl rfl (by decide) (SD.a (lvr := [(1, .long w5), (0, rv (zx x) a0)]) [0, 1] rfl rfl) (fun v6 => ?_)
      refine J_goto (tgt := 7) dX6_spelling_37 rfl ?_
      exact J_sub [2, 1, 0] rfl (ih a0 w5 v6 h)
def X6_spelling_f (a0 : Nat) (h : AH) : Option (Int64 × AH) :=
  LT (lN 0) fun w1 =>
  G (xc h a0 = 6) <|
  LT (xI h a0 6) fun v3 =>
  X6_spelling_B7 FU a0 w1 v3 h
theorem jX6_spelling (x : CT) (a0 : Nat) (h : AH) : J x qX6_spelling ZL 0 [(0, rv (zx x) a0)] [] h (X6_spelling_f a0 h) := by
  unfold X6_spelling_f
  refine J_lconst (v := lN 0) dX6_spelling_0 rfl ?_
  refine J_LTl (fun w1 => ?_)
  refine J_lstore_n dX6_spelling_1 (by decide) (SD.c (lvr := [(0, rv (zx x) a0)]) [0] rfl rfl 0 rfl rfl rv_cat) rfl ?_
  refine J_aload_n 1 dX6_spelling_2 rv_is rfl ?_
  refine J_G (fun g2 => ?_)
  refine J_getI kc_6 6 (by decide) rfl rfl kw_1_213 dX6_spelling_3 g2 ?_
  refine J_LTi (fun v3 => ?_)
  refine J_istore_n dX6_spelling_6 (by decide) (SD.a (lvr := [(1, .long w1), (0, rv (zx x) a0)]) [0, 1] rfl rfl) ?_
  exact J_sub [2, 1, 0] rfl (jX6_spelling_B7 x FU a0 w1 v3 h)
theorem ctX6_spelling (l : Launch) (w : WT) (a0 : Nat) (h : AH) : CM l w yX6_spelling cX6_spelling 4 (some .long) 0 0 KL [rv (w.1) a0] h (X6_spelling_f a0 h) :=
  CM.of (by decide +kernel) (by simp [lg_sl, rv_cat, cat_I, cat_L, cat_S]) (lv := [(0, rv (w.1) a0)]) (by simp [lv_args, rv_cat, cat_I, cat_L, cat_S]) (fun x hx => by subst hx; exact jX6_spelling x a0 h)
-- FallTrials$Reader.stepTo(Ljava/lang/String;)Z
abbrev qX6_stepTo : MT := (cX6_stepTo, RX6, "stepTo", (some .boolean), 5, 107, 2)
def X6_stepTo_B20 (h : AH) : Option (Int32 × AH) :=
  some (nI 1, h)
theorem jX6_stepTo_B20 (x : CT) (h : AH) : J x qX6_stepTo ZI 20 [] [] h (X6_stepTo_B20 h) := by
  unfold X6_stepTo_B20
  refine J_iconst (v := nI 1) dX6_stepTo_20 rfl ?_
  refine J_goto (tgt := 25) dX6_stepTo_21 rfl ?_
  exact J_zret dX6_stepTo_25 (by decide)
def X6_stepTo_f (a0 : Nat) (s1 : Nat) (h : AH) : Option (Int32 × AH) :=
  G (xc h a0 = 6) <|
  BN (X6_step_f a0 h) fun _ h2 =>
  G (xc h2 a0 = 6) <|
  BN (X6_spells_f a0 s1 h2) fun v5 h4 =>
  if v5 = 0 then (
    G (xc h4 a0 = 6) <|
    BN (X6_flawed_f a0 (nI 1) h4) fun v8 h7 =>
    if v8 = 0 then (
      some (nI 0, h7)
    ) else (
      X6_stepTo_B20 h7
    )
  ) else (
    X6_stepTo_B20 h4
  )
theorem jX6_stepTo (x : CT) (a0 : Nat) (s1 : Nat) (h : AH) : J x qX6_stepTo ZI 0 [(0, rv (zx x) a0), (1, sv (wx x) s1)] [] h (X6_stepTo_f a0 s1 h) := by
  unfold X6_stepTo_f
  refine J_aload_n 0 dX6_stepTo_0 rv_is rfl ?_
  refine J_G (fun g1 => ?_)
  refine J.callV (n := 0) (As := []) kc_6 (ctX6_step (lx x) (wx x) a0 h) kw_3_130 kw_3_127 kw_3_128 kw_3_129 kw_1_4 (by decide +kernel) rfl (by decide) (Nat.zero_le _) rfl dX6_stepTo_1 g1 (fun _ h2 => ?_)
  show J x _ _ 4 _ [] h2 _
  refine J_aload_n 0 dX6_stepTo_4 rv_is rfl ?_
  refine J_aload_n 1 dX6_stepTo_5 sv_is rfl ?_
  refine J_G (fun g3 => ?_)
  refine J.callV (n := 1) (As := [sv (wx x) s1]) kc_6 (ctX6_spells (lx x) (wx x) a0 s1 h2) kw_3_135 kw_3_132 kw_3_133 kw_3_134 kw_1_4 (by decide +kernel) rfl (by decide) (Nat.zero_le _) rfl dX6_stepTo_6 g3 (fun v5 h4 => ?_)
  show J x _ _ 9 _ [.int v5] h4 _
  refine J_if_ne (tgt := 20) dX6_stepTo_9 rfl ?_ ?_
  · exact J_sub [] rfl (jX6_stepTo_B20 x h4)
  · refine J_aload_n 0 dX6_stepTo_12 rv_is rfl ?_
    refine J_iconst (v := nI 1) dX6_stepTo_13 rfl ?_
    refine J_G (fun g6 => ?_)
    refine J.callV (n := 1) (As := [.int (nI 1)]) kc_6 (ctX6_flawed (lx x) (wx x) a0 (nI 1) h4) kw_3_213 kw_3_210 kw_3_211 kw_3_212 kw_1_4 (by decide +kernel) rfl (by decide) (Nat.zero_le _) rfl dX6_stepTo_14 g6 (fun v8 h7 => ?_)
    show J x _ _ 17 _ [.int v8] h7 _
    refine J_if_eq (tgt := 24) dX6_stepTo_17 rfl ?_ ?_
    · refine J_iconst (v := nI 0) dX6_stepTo_24 rfl ?_
      exact J_zret dX6_stepTo_25 (by decide)
    · exact J_sub [] rfl (jX6_stepTo_B20 x h7)
theorem ctX6_stepTo (l : Launch) (w : WT) (a0 : Nat) (s1 : Nat) (h : AH) : CM l w yX6_stepTo cX6_stepTo 2 (some .boolean) 5 107 KI [rv (w.1) a0, sv (w) s1] h (X6_stepTo_f a0 s1 h) :=
  CM.of (by decide +kernel) (by simp [lg_sl, rv_cat, cat_I, cat_L, cat_S]) (lv := [(0, rv (w.1) a0), (1, sv (w) s1)]) (by simp [lv_args, rv_cat, cat_I, cat_L, cat_S]) (fun x hx => by subst hx; exact jX6_stepTo x a0 s1 h)
-- FallTrials$Reader.endsLine()Z
abbrev qX6_endsLine : MT := (cX6_endsLine, RX6, "endsLine", (some .boolean), 1, 21, 1)
def X6_endsLine_B16 (h : AH) : Option (Int32 × AH) :=
  some (nI 1, h)
theorem jX6_endsLine_B16 (x : CT) (h : AH) : J x qX6_endsLine ZI 16 [] [] h (X6_endsLine_B16 h) := by
  unfold X6_endsLine_B16
  refine J_iconst (v := nI 1) dX6_endsLine_16 rfl ?_
  refine J_goto (tgt := 21) dX6_endsLine_17 rfl ?_
  exact J_zret dX6_endsLine_21 (by decide)
def X6_endsLine_f (a0 : Nat) (h : AH) : Option (Int32 × AH) :=
  G (xc h a0 = 6) <|
  if (xI h a0 8) = (nI 1) then (
    X6_endsLine_B16 h
  ) else (
    G (xc h a0 = 6) <|
    BN (X6_flawed_f a0 (nI 1) h) fun v4 h3 =>
    if v4 = 0 then (
      some (nI 0, h3)
    ) else (
      X6_endsLine_B16 h3
    )
  )
theorem jX6_endsLine (x : CT) (a0 : Nat) (h : AH) : J x qX6_endsLine ZI 0 [(0, rv (zx x) a0)] [] h (X6_endsLine_f a0 h) := by
  unfold X6_endsLine_f
  refine J_aload_n 0 dX6_endsLine_0 rv_is rfl ?_
  refine J_G (fun g1 => ?_)
  refine J_getI kc_6 8 (by decide) rfl rfl kw_1_215 dX6_endsLine_1 g1 ?_
  refine J_iconst (v := nI 1) dX6_endsLine_4 rfl ?_
  refine J_icmp_eq (tgt := 16) dX6_endsLine_5 rfl ?_ ?_
  · exact J_sub [] rfl (jX6_endsLine_B16 x h)
  · refine J_aload_n 0 dX6_endsLine_8 rv_is rfl ?_
    refine J_iconst (v := nI 1) dX6_endsLine_9 rfl ?_
    refine J_G (fun g2 => ?_)
    refine J.callV (n := 1) (As := [.int (nI 1)]) kc_6 (ctX6_flawed (lx x) (wx x) a0 (nI 1) h) kw_3_213 kw_3_210 kw_3_211 kw_3_212 kw_1_4 (by decide +kernel) rfl (by decide) (Nat.zero_le _) rfl dX6_endsLine_10 g2 (fun v4 h3 => ?_)
    show J x _ _ 13 _ [.int v4] h3 _
    refine J_if_eq (tgt := 20) dX6_endsLine_13 rfl ?_ ?_
    · refine J_iconst (v := nI 0) dX6_endsLine_20 rfl ?_
      exact J_zret dX6_endsLine_21 (by decide)
    · exact J_sub [] rfl (jX6_endsLine_B16 x h3)
theorem ctX6_endsLine (l : Launch) (w : WT) (a0 : Nat) (h : AH) : CM l w yX6_endsLine cX6_endsLine 1 (some .boolean) 1 21 KI [rv (w.1) a0] h (X6_endsLine_f a0 h) :=
  CM.of (by decide +kernel) (by simp [lg_sl, rv_cat, cat_I, cat_L, cat_S]) (lv := [(0, rv (w.1) a0)]) (by simp [lv_args, rv_cat, cat_I, cat_L, cat_S]) (fun x hx => by subst hx; exact jX6_endsLine x a0 h)
-- FallTrials$Support.<init>(LFallTrials$Works;LFallTrials$Trace;LFallTrials$FallLanes;)V
abbrev qX7_init : MT := (cX7_init, RX7, "<init>", none, 1, 20, 4)
def X7_init_f (a0 : Nat) (a1 : Nat) (a2 : Nat) (a3 : Nat) (h : AH) : Option (Unit × AH) :=
  G (xc h a0 ≠ 99) <|
  LT (xn h) fun r4 =>
  LT (pN h 17 (nI 280).toNatClampNeg) fun h3 =>
  G (xc h3 a0 = 7) <|
  LT (pR h3 a0 0 r4) fun h6 =>
  G (xc h6 a0 = 7) <|
  LT (pR h6 a0 1 a1) fun h8 =>
  G (xc h8 a1 = 10) <|
  G (xc h8 a0 = 7) <|
  LT (pR h8 a0 2 (xR h8 a1 0)) fun h11 =>
  G (xc h11 a0 = 7) <|
  LT (pR h11 a0 3 a2) fun h13 =>
  G (xc h13 a0 = 7) <|
  LT (pR h13 a0 4 a3) fun h15 =>
  some ((), h15)
theorem jX7_init (x : CT) (a0 : Nat) (a1 : Nat) (a2 : Nat) (a3 : Nat) (h : AH) : J x qX7_init ZV 0 [(0, rv (zx x) a0), (1, rv (zx x) a1), (2, rv (zx x) a2), (3, rv (zx x) a3)] [] h (X7_init_f a0 a1 a2 a3 h) := by
  unfold X7_init_f
  refine J_aload_n 0 dX7_init_0 rv_is rfl ?_
  refine J_G (fun g1 => ?_)
  refine J_objInit kw_2_215 kw_1_35 kw_1_36 (by decide) dX7_init_1 g1 ?_
  refine J_aload_n 0 dX7_init_4 rv_is rfl ?_
  refine J_sipush (v := nI 280) dX7_init_5 rfl ?_
  refine J_newarr17 kw_2_3 dX7_init_8 (by decide) ?_
  refine J_LTr (fun r4 => ?_)
  refine J_LTh (fun h3 => ?_)
  refine J_G (fun g5 => ?_)
  refine J_putR kc_7 0 (by decide) rfl rfl (Or.inr ⟨_, rfl⟩) (Or.inr ⟨rfl, rfl, rfl⟩) kw_2_216 dX7_init_10 g5 ?_
  refine J_LTh (fun h6 => ?_)
  refine J_aload_n 0 dX7_init_13 rv_is rfl ?_
  refine J_aload_n 1 dX7_init_14 rv_is rfl ?_
  refine J_G (fun g7 => ?_)
  refine J_putR kc_7 1 (by decide) rfl rfl (Or.inl ⟨_, rfl⟩) (Or.inl rfl) kw_2_218 dX7_init_15 g7 ?_
  refine J_LTh (fun h8 => ?_)
  refine J_aload_n 0 dX7_init_18 rv_is rfl ?_
  refine J_aload_n 1 dX7_init_19 rv_is rfl ?_
  refine J_G (fun g9 => ?_)
  refine J_getR kc_10 0 (by decide) rfl rfl kw_2_11 dX7_init_20 g9 ?_
  refine J_G (fun g10 => ?_)
  refine J_putR kc_7 2 (by decide) rfl rfl (Or.inl ⟨_, rfl⟩) (Or.inl rfl) kw_2_219 dX7_init_23 g10 ?_
  refine J_LTh (fun h11 => ?_)
  refine J_aload_n 0 dX7_init_26 rv_is rfl ?_
  refine J_aload_n 2 dX7_init_27 rv_is rfl ?_
  refine J_G (fun g12 => ?_)
  refine J_putR kc_7 3 (by decide) rfl rfl (Or.inl ⟨_, rfl⟩) (Or.inl rfl) kw_2_220 dX7_init_28 g12 ?_
  refine J_LTh (fun h13 => ?_)
  refine J_aload_n 0 dX7_init_31 rv_is rfl ?_
  refine J_aload_n 3 dX7_init_32 rv_is rfl ?_
  refine J_G (fun g14 => ?_)
  refine J_putR kc_7 4 (by decide) rfl rfl (Or.inl ⟨_, rfl⟩) (Or.inl rfl) kw_2_221 dX7_init_33 g14 ?_
  refine J_LTh (fun h15 => ?_)
  exact J_vret dX7_init_36
theorem ctX7_init (l : Launch) (w : WT) (a0 : Nat) (a1 : Nat) (a2 : Nat) (a3 : Nat) (h : AH) : CM l w yX7_init cX7_init 4 none 1 20 KV [rv (w.1) a0, rv (w.1) a1, rv (w.1) a2, rv (w.1) a3] h (X7_init_f a0 a1 a2 a3 h) :=
  CM.of (by decide +kernel) (by simp [lg_sl, rv_cat, cat_I, cat_L, cat_S]) (lv := [(0, rv (w.1) a0), (1, rv (w.1) a1), (2, rv (w.1) a2), (3, rv (w.1) a3)]) (by simp [lv_args, rv_cat, cat_I, cat_L, cat_S]) (fun x hx => by subst hx; exact jX7_init x a0 a1 a2 a3 h)
-- FallTrials$Support.casesStand(LFallTrials$Clause;II)J
abbrev qX7_casesStand : MT := (cX7_casesStand, RX7, "casesStand", (some .long), 0, 0, 8)
def X7_casesStand_B57 (k18 : (Nat → Nat → Int32 → Int64 → Int32 → AH → Option (Int64 × AH))) (a0 : Nat) (a1 : Nat) (i4 : Int32) (l5 : Int64) (i7 : Int32) (h : AH) : Option (Int64 × AH) :=
  LT (i7 + nI 1) fun v1 =>
  k18 a0 a1 i4 l5 v1 h
theorem jX7_casesStand_B57 (x : CT) (k18 : (Nat → Nat → Int32 → Int64 → Int32 → AH → Option (Int64 × AH))) (hk18 : ∀ (a0 : Nat) (a1 : Nat) (i4 : Int32) (l5 : Int64) (i7 : Int32) (h : AH), J x qX7_casesStand ZL 18 [(0, rv (zx x) a0), (1, rv (zx x) a1), (4, .int i4), (5, .long l5), (7, .int i7)] [] h (k18 a0 a1 i4 l5 i7 h)) (a0 : Nat) (a1 : Nat) (i4 : Int32) (l5 : Int64) (i7 : Int32) (h : AH) : J x qX7_casesStand ZL 57 [(0, rv (zx x) a0), (1, rv (zx x) a1), (4, .int i4), (5, .long l5), (7, .int i7)] [] h (X7_casesStand_B57 k18 a0 a1 i4 l5 i7 h) := by
  unfold X7_casesStand_B57
  refine J_iincL (u := i7 + nI 1) 4 dX7_casesStand_57 rfl rfl (by decide) (SD.a (lvr := [(0, rv (zx x) a0), (1, rv (zx x) a1), (4, .int i4), (5, .long l5)]) [0, 1, 2, 3] rfl rfl) (fun v1 => ?_)
  refine J_goto (tgt := 18) dX7_casesStand_60 rfl ?_
  exact J_sub [1, 2, 3, 4, 0] rfl (hk18 a0 a1 i4 l5 v1 h)
def X7_casesStand_B18 : Nat → Nat → Nat → Int32 → Int64 → Int32 → AH → Option (Int64 × AH)
  | 0, _, _, _, _, _, _ => none
  | n + 1, a0, a1, i4, l5, i7, h =>
    G (xc h a1 = 1) <|
    if (xI h a1 2) ≤ i7 then (
      some (l5, h)
    ) else (
      G (xc h a1 = 1) <|
      G (xc h (xR h a1 1) = 19) <|
      G (gx i7 (xz h (xR h a1 1))) <|
      if (xI h (xR h a1 1) i7.toNatClampNeg) = 0 then (
        G (xc h a0 = 7) <|
        G (xc h a1 = 1) <|
        G (xc h (xR h a1 0) = 16) <|
        G (gx i7 (xz h (xR h a1 0))) <|
        G (xc h (xR h a0 0) = 17) <|
        G (gx (i4 + (xI h (xR h a1 0) i7.toNatClampNeg)) (xz h (xR h a0 0))) <|
        LT (l5 &&& (xL h (xR h a0 0) (i4 + (xI h (xR h a1 0) i7.toNatClampNeg)).toNatClampNeg)) fun w11 =>
        X7_casesStand_B57 (X7_casesStand_B18 n) a0 a1 i4 w11 i7 h
      ) else (
        X7_casesStand_B57 (X7_casesStand_B18 n) a0 a1 i4 l5 i7 h
      )
    )
theorem jX7_casesStand_B18 (x : CT) : ∀ (n : Nat) (a0 : Nat) (a1 : Nat) (i4 : Int32) (l5 : Int64) (i7 : Int32) (h : AH), J x qX7_casesStand ZL 18 [(0, rv (zx x) a0), (1, rv (zx x) a1), (4, .int i4), (5, .long l5), (7, .int i7)] [] h (X7_casesStand_B18 n a0 a1 i4 l5 i7 h) := by
  intro n
  induction n with
  | zero => intro a0 a1 i4 l5 i7 h; exact J_none
  | succ n ih =>
    intro a0 a1 i4 l5 i7 h
    unfold X7_casesStand_B18
    refine J_iload 4 dX7_casesStand_18 rfl ?_
    refine J_aload_n 1 dX7_casesStand_20 rv_is rfl ?_
    refine J_G (fun g1 => ?_)
    refine J_getI kc_1 2 (by decide) rfl rfl kw_1_58 dX7_casesStand_21 g1 ?_
    refine J_icmp_ge (tgt := 63) dX7_casesStand_24 rfl ?_ ?_
    · refine J_lload 3 dX7_casesStand_63 rfl ?_
      exact J_lret dX7_casesStand_65
    · refine J_aload_n 1 dX7_casesStand_27 rv_is rfl ?_
      refine J_G (fun g2 => ?_)
      refine J_getR kc_1 1 (by decide) rfl rfl kw_1_55 dX7_casesStand_28 g2 ?_
      refine J_iload 4 dX7_casesStand_31 rfl ?_
      refine J_G (fun g3 => ?_)
      refine J_G (fun g4 => ?_)
      refine J_zald dX7_casesStand_33 g3 g4 ?_
      refine J_if_ne (tgt := 57) dX7_casesStand_34 rfl ?_ ?_
      · exact (jX7_casesStand_B57 x (X7_casesStand_B18 n) ih a0 a1 i4 l5 i7 h)
      · refine J_lload 3 dX7_casesStand_37 rfl ?_
        refine J_aload_n 0 dX7_casesStand_39 rv_is rfl ?_
        refine J_G (fun g5 => ?_)
        refine J_getR kc_7 0 (by decide) rfl rfl kw_2_216 dX7_casesStand_40 g5 ?_
        refine J_iload 2 dX7_casesStand_43 rfl ?_
        refine J_aload_n 1 dX7_casesStand_45 rv_is rfl ?_
        refine J_G (fun g6 => ?_)
        refine J_getR kc_1 0 (by decide) rfl rfl kw_1_52 dX7_casesStand_46 g6 ?_
        refine J_iload 4 dX7_casesStand_49 rfl ?_
        refine J_G (fun g7 => ?_)
        refine J_G (fun g8 => ?_)
        refine J_iald dX7_casesStand_51 g7 g8 ?_
        refine J_iadd dX7_casesStand_52 ?_
        refine J_G (fun g9 => ?_)
        refine J_G (fun g10 => ?_)
        refine J_lald dX7_casesStand_53 g9 g10 ?_
        refine J_land dX7_casesStand_54 ?_
        refine J_LTl (fun w11 => ?_)
        refine J_lstore dX7_casesStand_55 (by decide) (SD.a (lvr := [(0, rv (zx x) a0), (1, rv (zx x) a1), (4, .int i4), (7, .int i7)]) [0, 1, 2, 4] rfl rfl) rfl ?_
        exact J_sub [1, 2, 3, 0, 4] rfl (jX7_casesStand_B57 x (X7_casesStand_B18 n) ih a0 a1 i4 w11 i7 h)
def X7_casesStand_f (a0 : Nat) (a1 : Nat) (i2 : Int32) (i3 : Int32) (h : AH) : Option (Int64 × AH) :=
  LT (((i3 * (nI 4)) + i2) * (nI 10)) fun v1 =>
  X7_casesStand_B18 FU a0 a1 v1 (-1) (nI 0) h
theorem jX7_casesStand (x : CT) (a0 : Nat) (a1 : Nat) (i2 : Int32) (i3 : Int32) (h : AH) : J x qX7_casesStand ZL 0 [(0, rv (zx x) a0), (1, rv (zx x) a1), (2, .int i2), (3, .int i3)] [] h (X7_casesStand_f a0 a1 i2 i3 h) := by
  unfold X7_casesStand_f
  refine J_iload_n 3 dX7_casesStand_0 rfl ?_
  refine J_iconst (v := nI 4) dX7_casesStand_1 rfl ?_
  refine J_imul dX7_casesStand_2 ?_
  refine J_iload_n 2 dX7_casesStand_3 rfl ?_
  refine J_iadd dX7_casesStand_4 ?_
  refine J_bipush (v := nI 10) dX7_casesStand_5 rfl ?_
  refine J_imul dX7_casesStand_7 ?_
  refine J_LTi (fun v1 => ?_)
  refine J_istore dX7_casesStand_8 (by decide) (SD.a (lvr := [(0, rv (zx x) a0), (1, rv (zx x) a1)]) [0, 1] rfl rfl) ?_
  refine J_ldc2 (v := (-1)) dX7_casesStand_10 kw_5_52 ?_
  refine J_lstore dX7_casesStand_13 (by decide) (SD.a (lvr := [(4, .int v1), (0, rv (zx x) a0), (1, rv (zx x) a1)]) [0, 1, 2] rfl rfl) rfl ?_
  refine J_iconst (v := nI 0) dX7_casesStand_15 rfl ?_
  refine J_istore dX7_casesStand_16 (by decide) (SD.a (lvr := [(5, .long ((-1))), (4, .int v1), (0, rv (zx x) a0), (1, rv (zx x) a1)]) [0, 1, 2, 3] rfl rfl) ?_
  exact J_sub [3, 4, 2, 1, 0] rfl (jX7_casesStand_B18 x FU a0 a1 v1 (-1) (nI 0) h)
theorem ctX7_casesStand (l : Launch) (w : WT) (a0 : Nat) (a1 : Nat) (i2 : Int32) (i3 : Int32) (h : AH) : CM l w yX7_casesStand cX7_casesStand 8 (some .long) 0 0 KL [rv (w.1) a0, rv (w.1) a1, .int i2, .int i3] h (X7_casesStand_f a0 a1 i2 i3 h) :=
  CM.of (by decide +kernel) (by simp [lg_sl, rv_cat, cat_I, cat_L, cat_S]) (lv := [(0, rv (w.1) a0), (1, rv (w.1) a1), (2, .int i2), (3, .int i3)]) (by simp [lv_args, rv_cat, cat_I, cat_L, cat_S]) (fun x hx => by subst hx; exact jX7_casesStand x a0 a1 i2 i3 h)
-- FallTrials$Trace.<init>()V
abbrev qX8_init : MT := (cX8_init, RX8, "<init>", none, 1, 20, 1)
def X8_init_f (a0 : Nat) (h : AH) : Option (Unit × AH) :=
  G (xc h a0 ≠ 99) <|
  LT (xn h) fun r4 =>
  LT (pN h 16 (nI 28).toNatClampNeg) fun h3 =>
  G (xc h3 a0 = 8) <|
  LT (pR h3 a0 0 r4) fun h6 =>
  LT (xn h6) fun r9 =>
  LT (pN h6 16 (nI 4).toNatClampNeg) fun h8 =>
  G (xc h8 a0 = 8) <|
  LT (pR h8 a0 1 r9) fun h11 =>
  LT (xn h11) fun r14 =>
  LT (pN h11 16 (nI 6).toNatClampNeg) fun h13 =>
  G (xc h13 a0 = 8) <|
  LT (pR h13 a0 2 r14) fun h16 =>
  LT (xn h16) fun r19 =>
  LT (pN h16 16 (nI 42).toNatClampNeg) fun h18 =>
  G (xc h18 a0 = 8) <|
  LT (pR h18 a0 3 r19) fun h21 =>
  LT (xn h21) fun r24 =>
  LT (pN h21 16 (nI 24).toNatClampNeg) fun h23 =>
  G (xc h23 a0 = 8) <|
  LT (pR h23 a0 4 r24) fun h26 =>
  some ((), h26)
theorem jX8_init (x : CT) (a0 : Nat) (h : AH) : J x qX8_init ZV 0 [(0, rv (zx x) a0)] [] h (X8_init_f a0 h) := by
  unfold X8_init_f
  refine J_aload_n 0 dX8_init_0 rv_is rfl ?_
  refine J_G (fun g1 => ?_)
  refine J_objInit kw_2_138 kw_1_35 kw_1_36 (by decide) dX8_init_1 g1 ?_
  refine J_aload_n 0 dX8_init_4 rv_is rfl ?_
  refine J_bipush (v := nI 28) dX8_init_5 rfl ?_
  refine J_newarr16 kw_1_101 dX8_init_7 (by decide) ?_
  refine J_LTr (fun r4 => ?_)
  refine J_LTh (fun h3 => ?_)
  refine J_G (fun g5 => ?_)
  refine J_putR kc_8 0 (by decide) rfl rfl (Or.inr ⟨_, rfl⟩) (Or.inr ⟨rfl, rfl, rfl⟩) kw_2_139 dX8_init_9 g5 ?_
  refine J_LTh (fun h6 => ?_)
  refine J_aload_n 0 dX8_init_12 rv_is rfl ?_
  refine J_iconst (v := nI 4) dX8_init_13 rfl ?_
  refine J_newarr16 kw_1_101 dX8_init_14 (by decide) ?_
  refine J_LTr (fun r9 => ?_)
  refine J_LTh (fun h8 => ?_)
  refine J_G (fun g10 => ?_)
  refine J_putR kc_8 1 (by decide) rfl rfl (Or.inr ⟨_, rfl⟩) (Or.inr ⟨rfl, rfl, rfl⟩) kw_2_142 dX8_init_16 g10 ?_
  refine J_LTh (fun h11 => ?_)
  refine J_aload_n 0 dX8_init_19 rv_is rfl ?_
  refine J_bipush (v := nI 6) dX8_init_20 rfl ?_
  refine J_newarr16 kw_1_101 dX8_init_22 (by decide) ?_
  refine J_LTr (fun r14 => ?_)
  refine J_LTh (fun h13 => ?_)
  refine J_G (fun g15 => ?_)
  refine J_putR kc_8 2 (by decide) rfl rfl (Or.inr ⟨_, rfl⟩) (Or.inr ⟨rfl, rfl, rfl⟩) kw_2_143 dX8_init_24 g15 ?_
  refine J_LTh (fun h16 => ?_)
  refine J_aload_n 0 dX8_init_27 rv_is rfl ?_
  refine J_bipush (v := nI 42) dX8_init_28 rfl ?_
  refine J_newarr16 kw_1_101 dX8_init_30 (by decide) ?_
  refine J_LTr (fun r19 => ?_)
  refine J_LTh (fun h18 => ?_)
  refine J_G (fun g20 => ?_)
  refine J_putR kc_8 3 (by decide) rfl rfl (Or.inr ⟨_, rfl⟩) (Or.inr ⟨rfl, rfl, rfl⟩) kw_2_144 dX8_init_32 g20 ?_
  refine J_LTh (fun h21 => ?_)
  refine J_aload_n 0 dX8_init_35 rv_is rfl ?_
  refine J_bipush (v := nI 24) dX8_init_36 rfl ?_
  refine J_newarr16 kw_1_101 dX8_init_38 (by decide) ?_
  refine J_LTr (fun r24 => ?_)
  refine J_LTh (fun h23 => ?_)
  refine J_G (fun g25 => ?_)
  refine J_putR kc_8 4 (by decide) rfl rfl (Or.inr ⟨_, rfl⟩) (Or.inr ⟨rfl, rfl, rfl⟩) kw_2_146 dX8_init_40 g25 ?_
  refine J_LTh (fun h26 => ?_)
  exact J_vret dX8_init_43
theorem ctX8_init (l : Launch) (w : WT) (a0 : Nat) (h : AH) : CM l w yX8_init cX8_init 1 none 1 20 KV [rv (w.1) a0] h (X8_init_f a0 h) :=
  CM.of (by decide +kernel) (by simp [lg_sl, rv_cat, cat_I, cat_L, cat_S]) (lv := [(0, rv (w.1) a0)]) (by simp [lv_args, rv_cat, cat_I, cat_L, cat_S]) (fun x hx => by subst hx; exact jX8_init x a0 h)
-- FallTrials$Trace.takeRows(IILFallTrials$Course;)V
abbrev qX8_takeRows : MT := (cX8_takeRows, RX8, "takeRows", none, 0, 0, 6)
def X8_takeRows_B41 (a0 : Nat) (i2 : Int32) (i4 : Int32) (h : AH) : Option (Unit × AH) :=
  G (xc h a0 = 8) <|
  G (xc h (xR h a0 0) = 16) <|
  G (gx i2 (xz h (xR h a0 0))) <|
  LT (pI h (xR h a0 0) i2.toNatClampNeg i4) fun h4 =>
  some ((), h4)
theorem jX8_takeRows_B41 (x : CT) (a0 : Nat) (i2 : Int32) (i4 : Int32) (h : AH) : J x qX8_takeRows ZV 41 [(0, rv (zx x) a0), (2, .int i2), (4, .int i4)] [] h (X8_takeRows_B41 a0 i2 i4 h) := by
  unfold X8_takeRows_B41
  refine J_aload_n 0 dX8_takeRows_41 rv_is rfl ?_
  refine J_G (fun g1 => ?_)
  refine J_getR kc_8 0 (by decide) rfl rfl kw_2_139 dX8_takeRows_42 g1 ?_
  refine J_iload_n 1 dX8_takeRows_45 rfl ?_
  refine J_iload 2 dX8_takeRows_46 rfl ?_
  refine J_G (fun g2 => ?_)
  refine J_G (fun g3 => ?_)
  refine J_iast dX8_takeRows_48 g2 g3 ?_
  refine J_LTh (fun h4 => ?_)
  exact J_vret dX8_takeRows_49
def X8_takeRows_B6 : Nat → Nat → Int32 → Int32 → Nat → Int32 → Int32 → AH → Option (Unit × AH)
  | 0, _, _, _, _, _, _, _ => none
  | n + 1, a0, i1, i2, a3, i4, i5, h =>
    if i1 ≤ i5 then (
      X8_takeRows_B41 a0 i2 i4 h
    ) else (
      G (xc h a3 = 2) <|
      G (xc h (xR h a3 0) = 17) <|
      G (gx ((i2 * (nI 10)) + i5) (xz h (xR h a3 0))) <|
      LT (i4 ||| ((((xL h (xR h a3 0) ((i2 * (nI 10)) + i5).toNatClampNeg) &&& (lN 1)).toInt32) <<< (i5 &&& 31))) fun v4 =>
      LT (i5 + nI 1) fun v5 =>
      X8_takeRows_B6 n a0 i1 i2 a3 v4 v5 h
    )
theorem jX8_takeRows_B6 (x : CT) : ∀ (n : Nat) (a0 : Nat) (i1 : Int32) (i2 : Int32) (a3 : Nat) (i4 : Int32) (i5 : Int32) (h : AH), J x qX8_takeRows ZV 6 [(0, rv (zx x) a0), (1, .int i1), (2, .int i2), (3, rv (zx x) a3), (4, .int i4), (5, .int i5)] [] h (X8_takeRows_B6 n a0 i1 i2 a3 i4 i5 h) := by
  intro n
  induction n with
  | zero => intro a0 i1 i2 a3 i4 i5 h; exact J_none
  | succ n ih =>
    intro a0 i1 i2 a3 i4 i5 h
    unfold X8_takeRows_B6
    refine J_iload 5 dX8_takeRows_6 rfl ?_
    refine J_iload_n 1 dX8_takeRows_8 rfl ?_
    refine J_icmp_ge (tgt := 41) dX8_takeRows_9 rfl ?_ ?_
    · exact J_sub [0, 2, 4] rfl (jX8_takeRows_B41 x a0 i2 i4 h)
    · refine J_iload 4 dX8_takeRows_12 rfl ?_
      refine J_aload_n 3 dX8_takeRows_14 rv_is rfl ?_
      refine J_G (fun g1 => ?_)
      refine J_getR kc_2 0 (by decide) rfl rfl kw_2_175 dX8_takeRows_15 g1 ?_
      refine J_iload_n 2 dX8_takeRows_18 rfl ?_
      refine J_bipush (v := nI 10) dX8_takeRows_19 rfl ?_
      refine J_imul dX8_takeRows_21 ?_
      refine J_iload 5 dX8_takeRows_22 rfl ?_
      refine J_iadd dX8_takeRows_24 ?_
      refine J_G (fun g2 => ?_)
      refine J_G (fun g3 => ?_)
      refine J_lald dX8_takeRows_25 g2 g3 ?_
      refine J_lconst (v := lN 1) dX8_takeRows_26 rfl ?_
      refine J_land dX8_takeRows_27 ?_
      refine J_l2i dX8_takeRows_28 ?_
      refine J_iload 5 dX8_takeRows_29 rfl ?_
      refine J_ishl dX8_takeRows_31 ?_
      refine J_ior dX8_takeRows_32 ?_
      refine J_LTi (fun v4 => ?_)
      refine J_istore dX8_takeRows_33 (by decide) (SD.c (lvr := [(0, rv (zx x) a0), (1, .int i1), (2, .int i2), (3, rv (zx x) a3), (5, .int i5)]) [0, 1, 2, 3, 5] rfl rfl 3 rfl rfl rv_cat) ?_
      refine J_iincL (u := i5 + nI 1) 5 dX8_takeRows_35 rfl rfl (by decide) (SD.a (lvr := [(4, .int v4), (0, rv (zx x) a0), (1, .int i1), (2, .int i2), (3, rv (zx x) a3)]) [0, 1, 2, 3, 4] rfl rfl) (fun v5 => ?_)
      refine J_goto (tgt := 6) dX8_takeRows_38 rfl ?_
      exact J_sub [2, 3, 4, 5, 1, 0] rfl (ih a0 i1 i2 a3 v4 v5 h)
def X8_takeRows_f (a0 : Nat) (i1 : Int32) (i2 : Int32) (a3 : Nat) (h : AH) : Option (Unit × AH) :=
  X8_takeRows_B6 FU a0 i1 i2 a3 (nI 0) (nI 0) h
theorem jX8_takeRows (x : CT) (a0 : Nat) (i1 : Int32) (i2 : Int32) (a3 : Nat) (h : AH) : J x qX8_takeRows ZV 0 [(0, rv (zx x) a0), (1, .int i1), (2, .int i2), (3, rv (zx x) a3)] [] h (X8_takeRows_f a0 i1 i2 a3 h) := by
  unfold X8_takeRows_f
  refine J_iconst (v := nI 0) dX8_takeRows_0 rfl ?_
  refine J_istore dX8_takeRows_1 (by decide) (SD.c (lvr := [(0, rv (zx x) a0), (1, .int i1), (2, .int i2), (3, rv (zx x) a3)]) [0, 1, 2, 3] rfl rfl 3 rfl rfl rv_cat) ?_
  refine J_iconst (v := nI 0) dX8_takeRows_3 rfl ?_
  refine J_istore dX8_takeRows_4 (by decide) (SD.a (lvr := [(4, .int (nI 0)), (0, rv (zx x) a0), (1, .int i1), (2, .int i2), (3, rv (zx x) a3)]) [0, 1, 2, 3, 4] rfl rfl) ?_
  exact J_sub [2, 3, 4, 5, 1, 0] rfl (jX8_takeRows_B6 x FU a0 i1 i2 a3 (nI 0) (nI 0) h)
theorem ctX8_takeRows (l : Launch) (w : WT) (a0 : Nat) (i1 : Int32) (i2 : Int32) (a3 : Nat) (h : AH) : CM l w yX8_takeRows cX8_takeRows 6 none 0 0 KV [rv (w.1) a0, .int i1, .int i2, rv (w.1) a3] h (X8_takeRows_f a0 i1 i2 a3 h) :=
  CM.of (by decide +kernel) (by simp [lg_sl, rv_cat, cat_I, cat_L, cat_S]) (lv := [(0, rv (w.1) a0), (1, .int i1), (2, .int i2), (3, rv (w.1) a3)]) (by simp [lv_args, rv_cat, cat_I, cat_L, cat_S]) (fun x hx => by subst hx; exact jX8_takeRows x a0 i1 i2 a3 h)
-- FallTrials$Trace.isDown(II)Z
abbrev qX8_isDown : MT := (cX8_isDown, RX8, "isDown", (some .boolean), 0, 0, 3)
def X8_isDown_f (a0 : Nat) (i1 : Int32) (i2 : Int32) (h : AH) : Option (Int32 × AH) :=
  G (xc h a0 = 8) <|
  G (xc h (xR h a0 1) = 16) <|
  G (gx i1 (xz h (xR h a0 1))) <|
  if (((xI h (xR h a0 1) i1.toNatClampNeg) >>> (i2 &&& 31)) &&& (nI 1)) = 0 then (
    some (nI 0, h)
  ) else (
    some (nI 1, h)
  )
theorem jX8_isDown (x : CT) (a0 : Nat) (i1 : Int32) (i2 : Int32) (h : AH) : J x qX8_isDown ZI 0 [(0, rv (zx x) a0), (1, .int i1), (2, .int i2)] [] h (X8_isDown_f a0 i1 i2 h) := by
  unfold X8_isDown_f
  refine J_aload_n 0 dX8_isDown_0 rv_is rfl ?_
  refine J_G (fun g1 => ?_)
  refine J_getR kc_8 1 (by decide) rfl rfl kw_2_142 dX8_isDown_1 g1 ?_
  refine J_iload_n 1 dX8_isDown_4 rfl ?_
  refine J_G (fun g2 => ?_)
  refine J_G (fun g3 => ?_)
  refine J_iald dX8_isDown_5 g2 g3 ?_
  refine J_iload_n 2 dX8_isDown_6 rfl ?_
  refine J_ishr dX8_isDown_7 ?_
  refine J_iconst (v := nI 1) dX8_isDown_8 rfl ?_
  refine J_iand dX8_isDown_9 ?_
  refine J_if_eq (tgt := 17) dX8_isDown_10 rfl ?_ ?_
  · refine J_iconst (v := nI 0) dX8_isDown_17 rfl ?_
    exact J_zret dX8_isDown_18 (by decide)
  · refine J_iconst (v := nI 1) dX8_isDown_13 rfl ?_
    refine J_goto (tgt := 18) dX8_isDown_14 rfl ?_
    exact J_zret dX8_isDown_18 (by decide)
theorem ctX8_isDown (l : Launch) (w : WT) (a0 : Nat) (i1 : Int32) (i2 : Int32) (h : AH) : CM l w yX8_isDown cX8_isDown 3 (some .boolean) 0 0 KI [rv (w.1) a0, .int i1, .int i2] h (X8_isDown_f a0 i1 i2 h) :=
  CM.of (by decide +kernel) (by simp [lg_sl, rv_cat, cat_I, cat_L, cat_S]) (lv := [(0, rv (w.1) a0), (1, .int i1), (2, .int i2)]) (by simp [lv_args, rv_cat, cat_I, cat_L, cat_S]) (fun x hx => by subst hx; exact jX8_isDown x a0 i1 i2 h)
