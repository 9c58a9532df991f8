-- FallTrialsModel.goesOn(I)Z
abbrev qX15_goesOn : MT := (cX15_goesOn, RX15, "goesOn", (some .boolean), 1, 24, 5)
def X15_goesOn_B101 (k2 : (Nat → Int32 → Int32 → AH → Option (Int32 × AH))) (a0 : Nat) (i1 : Int32) (is0 : Int32) (h : AH) : Option (Int32 × AH) :=
  k2 a0 i1 is0 h
theorem jX15_goesOn_B101 (x : CT) (k2 : (Nat → Int32 → Int32 → AH → Option (Int32 × AH))) (hk2 : ∀ (a0 : Nat) (i1 : Int32) (i2 : Int32) (h : AH), J x qX15_goesOn ZI 2 [(0, rv (zx x) a0), (1, .int i1), (2, .int i2)] [] h (k2 a0 i1 i2 h)) (a0 : Nat) (i1 : Int32) (is0 : Int32) (h : AH) : J x qX15_goesOn ZI 101 [(0, rv (zx x) a0), (1, .int i1)] [.int is0] h (X15_goesOn_B101 k2 a0 i1 is0 h) := by
  unfold X15_goesOn_B101
  refine J_istore_n dX15_goesOn_101 (by decide) (SD.a (lvr := [(0, rv (zx x) a0), (1, .int i1)]) [0, 1] rfl rfl) ?_
  refine J_goto (tgt := 2) dX15_goesOn_102 rfl ?_
  exact J_sub [1, 2, 0] rfl (hk2 a0 i1 is0 h)
def X15_goesOn_B88 (k2 : (Nat → Int32 → Int32 → AH → Option (Int32 × AH))) (a0 : Nat) (i1 : Int32) (h : AH) : Option (Int32 × AH) :=
  G (xc h a0 = 15) <|
  BN (X15_isMeant_f a0 i1 h) fun v3 h2 =>
  if v3 = 0 then (
    X15_goesOn_B101 k2 a0 i1 (nI 1) h2
  ) else (
    X15_goesOn_B101 k2 a0 i1 (nI 0) h2
  )
theorem jX15_goesOn_B88 (x : CT) (k2 : (Nat → Int32 → Int32 → AH → Option (Int32 × AH))) (hk2 : ∀ (a0 : Nat) (i1 : Int32) (i2 : Int32) (h : AH), J x qX15_goesOn ZI 2 [(0, rv (zx x) a0), (1, .int i1), (2, .int i2)] [] h (k2 a0 i1 i2 h)) (a0 : Nat) (i1 : Int32) (h : AH) : J x qX15_goesOn ZI 88 [(0, rv (zx x) a0), (1, .int i1)] [] h (X15_goesOn_B88 k2 a0 i1 h) := by
  unfold X15_goesOn_B88
  refine J_aload_n 0 dX15_goesOn_88 rv_is rfl ?_
  refine J_iload_n 1 dX15_goesOn_89 rfl ?_
  refine J_G (fun g1 => ?_)
  refine J.callV (n := 1) (As := [.int i1]) kc_15 (ctX15_isMeant (lx x) (wx x) a0 i1 h) kw_9_61 kw_9_58 kw_9_60 kp_55 kw_1_13 (by decide +kernel) rfl (by decide) (Nat.zero_le _) rfl dX15_goesOn_90 g1 (fun v3 h2 => ?_)
  show J x _ _ 93 _ [.int v3] h2 _
  refine J_if_ne (tgt := 100) dX15_goesOn_93 rfl ?_ ?_
  · refine J_iconst (v := nI 0) dX15_goesOn_100 rfl ?_
    exact (jX15_goesOn_B101 x k2 hk2 a0 i1 (nI 0) h2)
  · refine J_iconst (v := nI 1) dX15_goesOn_96 rfl ?_
    refine J_goto (tgt := 101) dX15_goesOn_97 rfl ?_
    exact (jX15_goesOn_B101 x k2 hk2 a0 i1 (nI 1) h2)
def X15_goesOn_B58 (k2 : (Nat → Int32 → Int32 → AH → Option (Int32 × AH))) : Nat → Nat → Int32 → Int32 → AH → Option (Int32 × AH)
  | 0, _, _, _, _ => none
  | n + 1, a0, i1, i4, h =>
    if i1 ≤ i4 then (
      X15_goesOn_B88 k2 a0 i1 h
    ) else (
      G (xc h a0 = 15) <|
      G (xc h (xR h a0 38) = 16) <|
      G (gx (i4 - (nI 1)) (xz h (xR h a0 38))) <|
      G (gx i4 (xz h (xR h a0 38))) <|
      LT (pI h (xR h a0 38) i4.toNatClampNeg ((xI h (xR h a0 38) (i4 - (nI 1)).toNatClampNeg) + (nI 1))) fun h5 =>
      LT (i4 + nI 1) fun v6 =>
      X15_goesOn_B58 k2 n a0 i1 v6 h5
    )
theorem jX15_goesOn_B58 (x : CT) (k2 : (Nat → Int32 → Int32 → AH → Option (Int32 × AH))) (hk2 : ∀ (a0 : Nat) (i1 : Int32) (i2 : Int32) (h : AH), J x qX15_goesOn ZI 2 [(0, rv (zx x) a0), (1, .int i1), (2, .int i2)] [] h (k2 a0 i1 i2 h)) : ∀ (n : Nat) (a0 : Nat) (i1 : Int32) (i4 : Int32) (h : AH), J x qX15_goesOn ZI 58 [(0, rv (zx x) a0), (1, .int i1), (4, .int i4)] [] h (X15_goesOn_B58 k2 n a0 i1 i4 h) := by
  intro n
  induction n with
  | zero => intro a0 i1 i4 h; exact J_none
  | succ n ih =>
    intro a0 i1 i4 h
    unfold X15_goesOn_B58
    refine J_iload 2 dX15_goesOn_58 rfl ?_
    refine J_iload_n 1 dX15_goesOn_60 rfl ?_
    refine J_icmp_ge (tgt := 88) dX15_goesOn_61 rfl ?_ ?_
    · exact J_sub [0, 1] rfl (jX15_goesOn_B88 x k2 hk2 a0 i1 h)
    · refine J_aload_n 0 dX15_goesOn_64 rv_is rfl ?_
      refine J_G (fun g1 => ?_)
      refine J_getR kc_15 38 (by decide) rfl rfl kw_7_8 dX15_goesOn_65 g1 ?_
      refine J_iload 2 dX15_goesOn_68 rfl ?_
      refine J_aload_n 0 dX15_goesOn_70 rv_is rfl ?_
      refine J_getR kc_15 38 (by decide) rfl rfl kw_7_8 dX15_goesOn_71 g1 ?_
      refine J_iload 2 dX15_goesOn_74 rfl ?_
      refine J_iconst (v := nI 1) dX15_goesOn_76 rfl ?_
      refine J_isub dX15_goesOn_77 ?_
      refine J_G (fun g2 => ?_)
      refine J_G (fun g3 => ?_)
      refine J_iald dX15_goesOn_78 g2 g3 ?_
      refine J_iconst (v := nI 1) dX15_goesOn_79 rfl ?_
      refine J_iadd dX15_goesOn_80 ?_
      refine J_G (fun g4 => ?_)
      refine J_iast dX15_goesOn_81 g2 g4 ?_
      refine J_LTh (fun h5 => ?_)
      refine J_iincL (u := i4 + nI 1) 2 dX15_goesOn_82 rfl rfl (by decide) (SD.a (lvr := [(0, rv (zx x) a0), (1, .int i1)]) [0, 1] rfl rfl) (fun v6 => ?_)
      refine J_goto (tgt := 58) dX15_goesOn_85 rfl ?_
      exact J_sub [1, 2, 0] rfl (ih a0 i1 v6 h5)
def X15_goesOn_B37 (k2 : (Nat → Int32 → Int32 → AH → Option (Int32 × AH))) (a0 : Nat) (i1 : Int32) (i3 : Int32) (h : AH) : Option (Int32 × AH) :=
  if 0 ≤ i3 then (
    G (xc h a0 = 15) <|
    G (xc h (xR h a0 38) = 16) <|
    G (gx i3 (xz h (xR h a0 38))) <|
    G (gx i3 (xz h (xR h a0 38))) <|
    LT (pI h (xR h a0 38) i3.toNatClampNeg ((xI h (xR h a0 38) i3.toNatClampNeg) + (nI 1))) fun h5 =>
    LT (i3 + (nI 1)) fun v6 =>
    X15_goesOn_B58 k2 FU a0 i1 v6 h5
  ) else (
    some (nI 0, h)
  )
theorem jX15_goesOn_B37 (x : CT) (k2 : (Nat → Int32 → Int32 → AH → Option (Int32 × AH))) (hk2 : ∀ (a0 : Nat) (i1 : Int32) (i2 : Int32) (h : AH), J x qX15_goesOn ZI 2 [(0, rv (zx x) a0), (1, .int i1), (2, .int i2)] [] h (k2 a0 i1 i2 h)) (a0 : Nat) (i1 : Int32) (i3 : Int32) (h : AH) : J x qX15_goesOn ZI 37 [(0, rv (zx x) a0), (1, .int i1), (3, .int i3)] [] h (X15_goesOn_B37 k2 a0 i1 i3 h) := by
  unfold X15_goesOn_B37
  refine J_iload_n 2 dX15_goesOn_37 rfl ?_
  refine J_if_ge (tgt := 43) dX15_goesOn_38 rfl ?_ ?_
  · refine J_aload_n 0 dX15_goesOn_43 rv_is rfl ?_
    refine J_G (fun g1 => ?_)
    refine J_getR kc_15 38 (by decide) rfl rfl kw_7_8 dX15_goesOn_44 g1 ?_
    refine J_iload_n 2 dX15_goesOn_47 rfl ?_
    refine J_dup2 dX15_goesOn_48 rfl rv_cat ?_
    refine J_G (fun g2 => ?_)
    refine J_G (fun g3 => ?_)
    refine J_iald dX15_goesOn_49 g2 g3 ?_
    refine J_iconst (v := nI 1) dX15_goesOn_50 rfl ?_
    refine J_iadd dX15_goesOn_51 ?_
    refine J_G (fun g4 => ?_)
    refine J_iast dX15_goesOn_52 g2 g4 ?_
    refine J_LTh (fun h5 => ?_)
    refine J_iload_n 2 dX15_goesOn_53 rfl ?_
    refine J_iconst (v := nI 1) dX15_goesOn_54 rfl ?_
    refine J_iadd dX15_goesOn_55 ?_
    refine J_LTi (fun v6 => ?_)
    refine J_istore dX15_goesOn_56 (by decide) (SD.a (lvr := [(0, rv (zx x) a0), (1, .int i1)]) [0, 1] rfl rfl) ?_
    exact J_sub [1, 2, 0] rfl (jX15_goesOn_B58 x k2 hk2 FU a0 i1 v6 h5)
  · refine J_iconst (v := nI 0) dX15_goesOn_41 rfl ?_
    exact J_zret dX15_goesOn_42 (by decide)
def X15_goesOn_B10 (k2 : (Nat → Int32 → Int32 → AH → Option (Int32 × AH))) : Nat → Nat → Int32 → Int32 → AH → Option (Int32 × AH)
  | 0, _, _, _, _ => none
  | n + 1, a0, i1, i3, h =>
    if i3 < 0 then (
      X15_goesOn_B37 k2 a0 i1 i3 h
    ) else (
      G (xc h a0 = 15) <|
      G (xc h (xR h a0 38) = 16) <|
      G (gx i3 (xz h (xR h a0 38))) <|
      if (xI h (xR h a0 38) i3.toNatClampNeg) = (((xI h a0 36) - i1) + i3) then (
        LT (i3 + (-1)) fun v4 =>
        X15_goesOn_B10 k2 n a0 i1 v4 h
      ) else (
        X15_goesOn_B37 k2 a0 i1 i3 h
      )
    )
theorem jX15_goesOn_B10 (x : CT) (k2 : (Nat → Int32 → Int32 → AH → Option (Int32 × AH))) (hk2 : ∀ (a0 : Nat) (i1 : Int32) (i2 : Int32) (h : AH), J x qX15_goesOn ZI 2 [(0, rv (zx x) a0), (1, .int i1), (2, .int i2)] [] h (k2 a0 i1 i2 h)) : ∀ (n : Nat) (a0 : Nat) (i1 : Int32) (i3 : Int32) (h : AH), J x qX15_goesOn ZI 10 [(0, rv (zx x) a0), (1, .int i1), (3, .int i3)] [] h (X15_goesOn_B10 k2 n a0 i1 i3 h) := by
  intro n
  induction n with
  | zero => intro a0 i1 i3 h; exact J_none
  | succ n ih =>
    intro a0 i1 i3 h
    unfold X15_goesOn_B10
    refine J_iload_n 2 dX15_goesOn_10 rfl ?_
    refine J_if_lt (tgt := 37) dX15_goesOn_11 rfl ?_ ?_
    · exact (jX15_goesOn_B37 x k2 hk2 a0 i1 i3 h)
    · refine J_aload_n 0 dX15_goesOn_14 rv_is rfl ?_
      refine J_G (fun g1 => ?_)
      refine J_getR kc_15 38 (by decide) rfl rfl kw_7_8 dX15_goesOn_15 g1 ?_
      refine J_iload_n 2 dX15_goesOn_18 rfl ?_
      refine J_G (fun g2 => ?_)
      refine J_G (fun g3 => ?_)
      refine J_iald dX15_goesOn_19 g2 g3 ?_
      refine J_aload_n 0 dX15_goesOn_20 rv_is rfl ?_
      refine J_getI kc_15 36 (by decide) rfl rfl kw_7_6 dX15_goesOn_21 g1 ?_
      refine J_iload_n 1 dX15_goesOn_24 rfl ?_
      refine J_isub dX15_goesOn_25 ?_
      refine J_iload_n 2 dX15_goesOn_26 rfl ?_
      refine J_iadd dX15_goesOn_27 ?_
      refine J_icmp_ne (tgt := 37) dX15_goesOn_28 rfl ?_ ?_
      · exact (jX15_goesOn_B37 x k2 hk2 a0 i1 i3 h)
      · refine J_iincL (u := i3 + (-1)) 2 dX15_goesOn_31 rfl rfl (by decide) (SD.a (lvr := [(0, rv (zx x) a0), (1, .int i1)]) [0, 1] rfl rfl) (fun v4 => ?_)
        refine J_goto (tgt := 10) dX15_goesOn_34 rfl ?_
        exact J_sub [1, 2, 0] rfl (ih a0 i1 v4 h)
def X15_goesOn_B2 : Nat → Nat → Int32 → Int32 → AH → Option (Int32 × AH)
  | 0, _, _, _, _ => none
  | n + 1, a0, i1, i2, h =>
    if i2 = 0 then (
      some (nI 1, h)
    ) else (
      LT (i1 - (nI 1)) fun v1 =>
      X15_goesOn_B10 (X15_goesOn_B2 n) FU a0 i1 v1 h
    )
theorem jX15_goesOn_B2 (x : CT) : ∀ (n : Nat) (a0 : Nat) (i1 : Int32) (i2 : Int32) (h : AH), J x qX15_goesOn ZI 2 [(0, rv (zx x) a0), (1, .int i1), (2, .int i2)] [] h (X15_goesOn_B2 n a0 i1 i2 h) := by
  intro n
  induction n with
  | zero => intro a0 i1 i2 h; exact J_none
  | succ n ih =>
    intro a0 i1 i2 h
    unfold X15_goesOn_B2
    refine J_iload_n 2 dX15_goesOn_2 rfl ?_
    refine J_if_eq (tgt := 105) dX15_goesOn_3 rfl ?_ ?_
    · refine J_iconst (v := nI 1) dX15_goesOn_105 rfl ?_
      exact J_zret dX15_goesOn_106 (by decide)
    · refine J_iload_n 1 dX15_goesOn_6 rfl ?_
      refine J_iconst (v := nI 1) dX15_goesOn_7 rfl ?_
      refine J_isub dX15_goesOn_8 ?_
      refine J_LTi (fun v1 => ?_)
      refine J_istore_n dX15_goesOn_9 (by decide) (SD.a (lvr := [(0, rv (zx x) a0), (1, .int i1)]) [0, 1] rfl rfl) ?_
      exact J_sub [1, 2, 0] rfl (jX15_goesOn_B10 x (X15_goesOn_B2 n) ih FU a0 i1 v1 h)
def X15_goesOn_f (a0 : Nat) (i1 : Int32) (h : AH) : Option (Int32 × AH) :=
  X15_goesOn_B2 FU a0 i1 (nI 1) h
theorem jX15_goesOn (x : CT) (a0 : Nat) (i1 : Int32) (h : AH) : J x qX15_goesOn ZI 0 [(0, rv (zx x) a0), (1, .int i1)] [] h (X15_goesOn_f a0 i1 h) := by
  unfold X15_goesOn_f
  refine J_iconst (v := nI 1) dX15_goesOn_0 rfl ?_
  refine J_istore_n dX15_goesOn_1 (by decide) (SD.a (lvr := [(0, rv (zx x) a0), (1, .int i1)]) [0, 1] rfl rfl) ?_
  exact J_sub [1, 2, 0] rfl (jX15_goesOn_B2 x FU a0 i1 (nI 1) h)
theorem ctX15_goesOn (l : Launch) (w : WT) (a0 : Nat) (i1 : Int32) (h : AH) : CM l w yX15_goesOn cX15_goesOn 5 (some .boolean) 1 24 KI [rv (w.1) a0, .int i1] h (X15_goesOn_f a0 i1 h) :=
  CM.of (by decide +kernel) (by simp [lg_sl, rv_cat, cat_I, cat_L, cat_S]) (lv := [(0, rv (w.1) a0), (1, .int i1)]) (by simp [lv_args, rv_cat, cat_I, cat_L, cat_S]) (fun x hx => by subst hx; exact jX15_goesOn x a0 i1 h)
-- FallTrialsModel.tried()I
abbrev qX15_tried : MT := (cX15_tried, RX15, "tried", (some .int), 0, 0, 1)
def X15_tried_f (a0 : Nat) (h : AH) : Option (Int32 × AH) :=
  G (xc h a0 = 15) <|
  LT (pI h a0 0 (nI 0)) fun h2 =>
  G (xc h2 a0 = 15) <|
  some (xI h2 a0 40, h2)
theorem jX15_tried (x : CT) (a0 : Nat) (h : AH) : J x qX15_tried ZI 0 [(0, rv (zx x) a0)] [] h (X15_tried_f a0 h) := by
  unfold X15_tried_f
  refine J_aload_n 0 dX15_tried_0 rv_is rfl ?_
  refine J_iconst (v := nI 0) dX15_tried_1 rfl ?_
  refine J_G (fun g1 => ?_)
  refine J_putI kc_15 0 (by decide) rfl rfl rfl rfl (Or.inl rfl) kw_6_210 dX15_tried_2 g1 ?_
  refine J_LTh (fun h2 => ?_)
  refine J_aload_n 0 dX15_tried_5 rv_is rfl ?_
  refine J_G (fun g3 => ?_)
  refine J_getI kc_15 40 (by decide) rfl rfl kw_7_10 dX15_tried_6 g3 ?_
  exact J_iret dX15_tried_9
theorem ctX15_tried (l : Launch) (w : WT) (a0 : Nat) (h : AH) : CM l w yX15_tried cX15_tried 1 (some .int) 0 0 KI [rv (w.1) a0] h (X15_tried_f a0 h) :=
  CM.of (by decide +kernel) (by simp [lg_sl, rv_cat, cat_I, cat_L, cat_S]) (lv := [(0, rv (w.1) a0)]) (by simp [lv_args, rv_cat, cat_I, cat_L, cat_S]) (fun x hx => by subst hx; exact jX15_tried x a0 h)
-- FallTrialsModel.known()I
abbrev qX15_known : MT := (cX15_known, RX15, "known", (some .int), 0, 0, 1)
def X15_known_f (a0 : Nat) (h : AH) : Option (Int32 × AH) :=
  G (xc h a0 = 15) <|
  LT (pI h a0 0 (nI 0)) fun h2 =>
  G (xc h2 a0 = 15) <|
  some (xI h2 a0 41, h2)
theorem jX15_known (x : CT) (a0 : Nat) (h : AH) : J x qX15_known ZI 0 [(0, rv (zx x) a0)] [] h (X15_known_f a0 h) := by
  unfold X15_known_f
  refine J_aload_n 0 dX15_known_0 rv_is rfl ?_
  refine J_iconst (v := nI 0) dX15_known_1 rfl ?_
  refine J_G (fun g1 => ?_)
  refine J_putI kc_15 0 (by decide) rfl rfl rfl rfl (Or.inl rfl) kw_6_210 dX15_known_2 g1 ?_
  refine J_LTh (fun h2 => ?_)
  refine J_aload_n 0 dX15_known_5 rv_is rfl ?_
  refine J_G (fun g3 => ?_)
  refine J_getI kc_15 41 (by decide) rfl rfl kw_7_11 dX15_known_6 g3 ?_
  exact J_iret dX15_known_9
theorem ctX15_known (l : Launch) (w : WT) (a0 : Nat) (h : AH) : CM l w yX15_known cX15_known 1 (some .int) 0 0 KI [rv (w.1) a0] h (X15_known_f a0 h) :=
  CM.of (by decide +kernel) (by simp [lg_sl, rv_cat, cat_I, cat_L, cat_S]) (lv := [(0, rv (w.1) a0)]) (by simp [lv_args, rv_cat, cat_I, cat_L, cat_S]) (fun x hx => by subst hx; exact jX15_known x a0 h)
-- FallTrialsModel.found(I)I
abbrev qX15_found : MT := (cX15_found, RX15, "found", (some .int), 0, 0, 2)
def X15_found_f (a0 : Nat) (i1 : Int32) (h : AH) : Option (Int32 × AH) :=
  G (xc h a0 = 15) <|
  LT (pI h a0 0 (nI 0)) fun h2 =>
  if i1 < 0 then (
    some ((-1), h2)
  ) else (
    G (xc h2 a0 = 15) <|
    if (xI h2 a0 42) ≤ i1 then (
      some ((-1), h2)
    ) else (
      G (xc h2 a0 = 15) <|
      G (xc h2 (xR h2 a0 44) = 16) <|
      G (gx i1 (xz h2 (xR h2 a0 44))) <|
      some (xI h2 (xR h2 a0 44) i1.toNatClampNeg, h2)
    )
  )
theorem jX15_found (x : CT) (a0 : Nat) (i1 : Int32) (h : AH) : J x qX15_found ZI 0 [(0, rv (zx x) a0), (1, .int i1)] [] h (X15_found_f a0 i1 h) := by
  unfold X15_found_f
  refine J_aload_n 0 dX15_found_0 rv_is rfl ?_
  refine J_iconst (v := nI 0) dX15_found_1 rfl ?_
  refine J_G (fun g1 => ?_)
  refine J_putI kc_15 0 (by decide) rfl rfl rfl rfl (Or.inl rfl) kw_6_210 dX15_found_2 g1 ?_
  refine J_LTh (fun h2 => ?_)
  refine J_iload_n 1 dX15_found_5 rfl ?_
  refine J_if_lt (tgt := 26) dX15_found_6 rfl ?_ ?_
  · refine J_iconst (v := (-1)) dX15_found_26 rfl ?_
    exact J_iret dX15_found_27
  · refine J_iload_n 1 dX15_found_9 rfl ?_
    refine J_aload_n 0 dX15_found_10 rv_is rfl ?_
    refine J_G (fun g3 => ?_)
    refine J_getI kc_15 42 (by decide) rfl rfl kw_7_12 dX15_found_11 g3 ?_
    refine J_icmp_ge (tgt := 26) dX15_found_14 rfl ?_ ?_
    · refine J_iconst (v := (-1)) dX15_found_26 rfl ?_
      exact J_iret dX15_found_27
    · refine J_aload_n 0 dX15_found_17 rv_is rfl ?_
      refine J_G (fun g4 => ?_)
      refine J_getR kc_15 44 (by decide) rfl rfl kw_7_14 dX15_found_18 g4 ?_
      refine J_iload_n 1 dX15_found_21 rfl ?_
      refine J_G (fun g5 => ?_)
      refine J_G (fun g6 => ?_)
      refine J_iald dX15_found_22 g5 g6 ?_
      refine J_goto (tgt := 27) dX15_found_23 rfl ?_
      exact J_iret dX15_found_27
theorem ctX15_found (l : Launch) (w : WT) (a0 : Nat) (i1 : Int32) (h : AH) : CM l w yX15_found cX15_found 2 (some .int) 0 0 KI [rv (w.1) a0, .int i1] h (X15_found_f a0 i1 h) :=
  CM.of (by decide +kernel) (by simp [lg_sl, rv_cat, cat_I, cat_L, cat_S]) (lv := [(0, rv (w.1) a0), (1, .int i1)]) (by simp [lv_args, rv_cat, cat_I, cat_L, cat_S]) (fun x hx => by subst hx; exact jX15_found x a0 i1 h)
-- FallTrialsModel.exactly(I)I
abbrev qX15_exactly : MT := (cX15_exactly, RX15, "exactly", (some .int), 0, 0, 2)
def X15_exactly_f (a0 : Nat) (i1 : Int32) (h : AH) : Option (Int32 × AH) :=
  G (xc h a0 = 15) <|
  LT (pI h a0 0 (nI 0)) fun h2 =>
  if i1 < 0 then (
    some ((-1), h2)
  ) else (
    G (xc h2 a0 = 15) <|
    if (xI h2 a0 43) ≤ i1 then (
      some ((-1), h2)
    ) else (
      G (xc h2 a0 = 15) <|
      G (xc h2 (xR h2 a0 45) = 16) <|
      G (gx i1 (xz h2 (xR h2 a0 45))) <|
      some (xI h2 (xR h2 a0 45) i1.toNatClampNeg, h2)
    )
  )
theorem jX15_exactly (x : CT) (a0 : Nat) (i1 : Int32) (h : AH) : J x qX15_exactly ZI 0 [(0, rv (zx x) a0), (1, .int i1)] [] h (X15_exactly_f a0 i1 h) := by
  unfold X15_exactly_f
  refine J_aload_n 0 dX15_exactly_0 rv_is rfl ?_
  refine J_iconst (v := nI 0) dX15_exactly_1 rfl ?_
  refine J_G (fun g1 => ?_)
  refine J_putI kc_15 0 (by decide) rfl rfl rfl rfl (Or.inl rfl) kw_6_210 dX15_exactly_2 g1 ?_
  refine J_LTh (fun h2 => ?_)
  refine J_iload_n 1 dX15_exactly_5 rfl ?_
  refine J_if_lt (tgt := 26) dX15_exactly_6 rfl ?_ ?_
  · refine J_iconst (v := (-1)) dX15_exactly_26 rfl ?_
    exact J_iret dX15_exactly_27
  · refine J_iload_n 1 dX15_exactly_9 rfl ?_
    refine J_aload_n 0 dX15_exactly_10 rv_is rfl ?_
    refine J_G (fun g3 => ?_)
    refine J_getI kc_15 43 (by decide) rfl rfl kw_7_13 dX15_exactly_11 g3 ?_
    refine J_icmp_ge (tgt := 26) dX15_exactly_14 rfl ?_ ?_
    · refine J_iconst (v := (-1)) dX15_exactly_26 rfl ?_
      exact J_iret dX15_exactly_27
    · refine J_aload_n 0 dX15_exactly_17 rv_is rfl ?_
      refine J_G (fun g4 => ?_)
      refine J_getR kc_15 45 (by decide) rfl rfl kw_7_15 dX15_exactly_18 g4 ?_
      refine J_iload_n 1 dX15_exactly_21 rfl ?_
      refine J_G (fun g5 => ?_)
      refine J_G (fun g6 => ?_)
      refine J_iald dX15_exactly_22 g5 g6 ?_
      refine J_goto (tgt := 27) dX15_exactly_23 rfl ?_
      exact J_iret dX15_exactly_27
theorem ctX15_exactly (l : Launch) (w : WT) (a0 : Nat) (i1 : Int32) (h : AH) : CM l w yX15_exactly cX15_exactly 2 (some .int) 0 0 KI [rv (w.1) a0, .int i1] h (X15_exactly_f a0 i1 h) :=
  CM.of (by decide +kernel) (by simp [lg_sl, rv_cat, cat_I, cat_L, cat_S]) (lv := [(0, rv (w.1) a0), (1, .int i1)]) (by simp [lv_args, rv_cat, cat_I, cat_L, cat_S]) (fun x hx => by subst hx; exact jX15_exactly x a0 i1 h)
-- FallTrialsModel.told(I)I
abbrev qX15_told : MT := (cX15_told, RX15, "told", (some .int), 0, 0, 2)
def X15_told_f (a0 : Nat) (i1 : Int32) (h : AH) : Option (Int32 × AH) :=
  G (xc h a0 = 15) <|
  LT (pI h a0 0 (nI 0)) fun h2 =>
  if i1 < 0 then (
    some ((-1), h2)
  ) else (
    G (xc h2 a0 = 15) <|
    if (xI h2 a0 16) ≤ i1 then (
      some ((-1), h2)
    ) else (
      G (xc h2 a0 = 15) <|
      G (xc h2 (xR h2 a0 20) = 16) <|
      G (gx i1 (xz h2 (xR h2 a0 20))) <|
      some (xI h2 (xR h2 a0 20) i1.toNatClampNeg, h2)
    )
  )
theorem jX15_told (x : CT) (a0 : Nat) (i1 : Int32) (h : AH) : J x qX15_told ZI 0 [(0, rv (zx x) a0), (1, .int i1)] [] h (X15_told_f a0 i1 h) := by
  unfold X15_told_f
  refine J_aload_n 0 dX15_told_0 rv_is rfl ?_
  refine J_iconst (v := nI 0) dX15_told_1 rfl ?_
  refine J_G (fun g1 => ?_)
  refine J_putI kc_15 0 (by decide) rfl rfl rfl rfl (Or.inl rfl) kw_6_210 dX15_told_2 g1 ?_
  refine J_LTh (fun h2 => ?_)
  refine J_iload_n 1 dX15_told_5 rfl ?_
  refine J_if_lt (tgt := 26) dX15_told_6 rfl ?_ ?_
  · refine J_iconst (v := (-1)) dX15_told_26 rfl ?_
    exact J_iret dX15_told_27
  · refine J_iload_n 1 dX15_told_9 rfl ?_
    refine J_aload_n 0 dX15_told_10 rv_is rfl ?_
    refine J_G (fun g3 => ?_)
    refine J_getI kc_15 16 (by decide) rfl rfl kw_6_226 dX15_told_11 g3 ?_
    refine J_icmp_ge (tgt := 26) dX15_told_14 rfl ?_ ?_
    · refine J_iconst (v := (-1)) dX15_told_26 rfl ?_
      exact J_iret dX15_told_27
    · refine J_aload_n 0 dX15_told_17 rv_is rfl ?_
      refine J_G (fun g4 => ?_)
      refine J_getR kc_15 20 (by decide) rfl rfl kw_6_230 dX15_told_18 g4 ?_
      refine J_iload_n 1 dX15_told_21 rfl ?_
      refine J_G (fun g5 => ?_)
      refine J_G (fun g6 => ?_)
      refine J_iald dX15_told_22 g5 g6 ?_
      refine J_goto (tgt := 27) dX15_told_23 rfl ?_
      exact J_iret dX15_told_27
theorem ctX15_told (l : Launch) (w : WT) (a0 : Nat) (i1 : Int32) (h : AH) : CM l w yX15_told cX15_told 2 (some .int) 0 0 KI [rv (w.1) a0, .int i1] h (X15_told_f a0 i1 h) :=
  CM.of (by decide +kernel) (by simp [lg_sl, rv_cat, cat_I, cat_L, cat_S]) (lv := [(0, rv (w.1) a0), (1, .int i1)]) (by simp [lv_args, rv_cat, cat_I, cat_L, cat_S]) (fun x hx => by subst hx; exact jX15_told x a0 i1 h)
-- FallTrialsModel.start(I)Z
abbrev qX15_start : MT := (cX15_start, RX15, "start", (some .boolean), 1, 21, 2)
def X15_start_B35 (a0 : Nat) (h : AH) : Option (Int32 × AH) :=
  G (xc h a0 = 15) <|
  BN (X15_denied_f a0 (nI 2) h) fun v3 h2 =>
  G (bz v3) <|
  some (v3, h2)
theorem jX15_start_B35 (x : CT) (a0 : Nat) (h : AH) : J x qX15_start ZI 35 [(0, rv (zx x) a0)] [] h (X15_start_B35 a0 h) := by
  unfold X15_start_B35
  refine J_aload_n 0 dX15_start_35 rv_is rfl ?_
  refine J_iconst (v := nI 2) dX15_start_36 rfl ?_
  refine J_G (fun g1 => ?_)
  refine J.callV (n := 1) (As := [.int (nI 2)]) kc_15 (ctX15_denied (lx x) (wx x) a0 (nI 2) h) kw_8_119 kw_8_116 kw_8_118 kp_25 kw_1_13 (by decide +kernel) rfl (by decide) (Nat.zero_le _) rfl dX15_start_37 g1 (fun v3 h2 => ?_)
  show J x _ _ 40 _ [.int v3] h2 _
  refine J_G (fun g4 => ?_)
  exact J_zret dX15_start_40 g4
def X15_start_f (a0 : Nat) (i1 : Int32) (h : AH) : Option (Int32 × AH) :=
  G (xc h a0 = 15) <|
  LT (pI h a0 0 (nI 0)) fun h2 =>
  G (xc h2 a0 = 15) <|
  if (xR h2 a0 4) = 0 then (
    G (xc h2 a0 = 15) <|
    BN (X15_denied_f a0 (nI 1) h2) fun v14 h13 =>
    G (bz v14) <|
    some (v14, h13)
  ) else (
    if i1 < 0 then (
      X15_start_B35 a0 h2
    ) else (
      G (xc h2 a0 = 15) <|
      G (xc h2 (xR h2 a0 4) = 12) <|
      if i1 < ((nI 1) <<< ((xI h2 (xR h2 a0 4) 4) &&& 31)) then (
        G (xc h2 a0 = 15) <|
        LT (pI h2 a0 15 i1) fun h7 =>
        G (xc h7 a0 = 15) <|
        BN (X15_granted_f a0 h7) fun v10 h9 =>
        G (bz v10) <|
        some (v10, h9)
      ) else (
        X15_start_B35 a0 h2
      )
    )
  )
theorem jX15_start (x : CT) (a0 : Nat) (i1 : Int32) (h : AH) : J x qX15_start ZI 0 [(0, rv (zx x) a0), (1, .int i1)] [] h (X15_start_f a0 i1 h) := by
  unfold X15_start_f
  refine J_aload_n 0 dX15_start_0 rv_is rfl ?_
  refine J_iconst (v := nI 0) dX15_start_1 rfl ?_
  refine J_G (fun g1 => ?_)
  refine J_putI kc_15 0 (by decide) rfl rfl rfl rfl (Or.inl rfl) kw_6_210 dX15_start_2 g1 ?_
  refine J_LTh (fun h2 => ?_)
  refine J_aload_n 0 dX15_start_5 rv_is rfl ?_
  refine J_G (fun g3 => ?_)
  refine J_getR kc_15 4 (by decide) rfl rfl kw_6_214 dX15_start_6 g3 ?_
  refine J_ifnonnull (tgt := 18) dX15_start_9 rfl ?_ ?_
  · refine J_iload_n 1 dX15_start_18 rfl ?_
    refine J_if_lt (tgt := 35) dX15_start_19 rfl ?_ ?_
    · exact J_sub [0] rfl (jX15_start_B35 x a0 h2)
    · refine J_iload_n 1 dX15_start_22 rfl ?_
      refine J_iconst (v := nI 1) dX15_start_23 rfl ?_
      refine J_aload_n 0 dX15_start_24 rv_is rfl ?_
      refine J_G (fun g4 => ?_)
      refine J_getR kc_15 4 (by decide) rfl rfl kw_6_214 dX15_start_25 g4 ?_
      refine J_G (fun g5 => ?_)
      refine J_getIN kc_12 4 (by decide) rfl rfl kn_28 dX15_start_28 g5 ?_
      refine J_ishl dX15_start_31 ?_
      refine J_icmp_lt (tgt := 41) dX15_start_32 rfl ?_ ?_
      · refine J_aload_n 0 dX15_start_41 rv_is rfl ?_
        refine J_iload_n 1 dX15_start_42 rfl ?_
        refine J_G (fun g6 => ?_)
        refine J_putI kc_15 15 (by decide) rfl rfl rfl rfl (Or.inl rfl) kw_6_225 dX15_start_43 g6 ?_
        refine J_LTh (fun h7 => ?_)
        refine J_aload_n 0 dX15_start_46 rv_is rfl ?_
        refine J_G (fun g8 => ?_)
        refine J.callV (n := 0) (As := []) kc_15 (ctX15_granted (lx x) (wx x) a0 h7) kw_8_126 kw_8_123 kw_8_125 kp_26 kw_1_13 (by decide +kernel) rfl (by decide) (Nat.zero_le _) rfl dX15_start_47 g8 (fun v10 h9 => ?_)
        show J x _ _ 50 _ [.int v10] h9 _
        refine J_G (fun g11 => ?_)
        exact J_zret dX15_start_50 g11
      · exact J_sub [0] rfl (jX15_start_B35 x a0 h2)
  · refine J_aload_n 0 dX15_start_12 rv_is rfl ?_
    refine J_iconst (v := nI 1) dX15_start_13 rfl ?_
    refine J_G (fun g12 => ?_)
    refine J.callV (n := 1) (As := [.int (nI 1)]) kc_15 (ctX15_denied (lx x) (wx x) a0 (nI 1) h2) kw_8_119 kw_8_116 kw_8_118 kp_25 kw_1_13 (by decide +kernel) rfl (by decide) (Nat.zero_le _) rfl dX15_start_14 g12 (fun v14 h13 => ?_)
    show J x _ _ 17 _ [.int v14] h13 _
    refine J_G (fun g15 => ?_)
    exact J_zret dX15_start_17 g15
theorem ctX15_start (l : Launch) (w : WT) (a0 : Nat) (i1 : Int32) (h : AH) : CM l w yX15_start cX15_start 2 (some .boolean) 1 21 KI [rv (w.1) a0, .int i1] h (X15_start_f a0 i1 h) :=
  CM.of (by decide +kernel) (by simp [lg_sl, rv_cat, cat_I, cat_L, cat_S]) (lv := [(0, rv (w.1) a0), (1, .int i1)]) (by simp [lv_args, rv_cat, cat_I, cat_L, cat_S]) (fun x hx => by subst hx; exact jX15_start x a0 i1 h)
-- FallTrialsModel.thinness()I
abbrev qX15_thinness : MT := (cX15_thinness, RX15, "thinness", (some .int), 0, 0, 1)
def X15_thinness_f (a0 : Nat) (h : AH) : Option (Int32 × AH) :=
  G (xc h a0 = 15) <|
  LT (pI h a0 0 (nI 0)) fun h2 =>
  G (xc h2 a0 = 15) <|
  some (xI h2 a0 47, h2)
theorem jX15_thinness (x : CT) (a0 : Nat) (h : AH) : J x qX15_thinness ZI 0 [(0, rv (zx x) a0)] [] h (X15_thinness_f a0 h) := by
  unfold X15_thinness_f
  refine J_aload_n 0 dX15_thinness_0 rv_is rfl ?_
  refine J_iconst (v := nI 0) dX15_thinness_1 rfl ?_
  refine J_G (fun g1 => ?_)
  refine J_putI kc_15 0 (by decide) rfl rfl rfl rfl (Or.inl rfl) kw_6_210 dX15_thinness_2 g1 ?_
  refine J_LTh (fun h2 => ?_)
  refine J_aload_n 0 dX15_thinness_5 rv_is rfl ?_
  refine J_G (fun g3 => ?_)
  refine J_getI kc_15 47 (by decide) rfl rfl kw_7_17 dX15_thinness_6 g3 ?_
  exact J_iret dX15_thinness_9
theorem ctX15_thinness (l : Launch) (w : WT) (a0 : Nat) (h : AH) : CM l w yX15_thinness cX15_thinness 1 (some .int) 0 0 KI [rv (w.1) a0] h (X15_thinness_f a0 h) :=
  CM.of (by decide +kernel) (by simp [lg_sl, rv_cat, cat_I, cat_L, cat_S]) (lv := [(0, rv (w.1) a0)]) (by simp [lv_args, rv_cat, cat_I, cat_L, cat_S]) (fun x hx => by subst hx; exact jX15_thinness x a0 h)
-- FallTrialsModel.leastRow(I)I
abbrev qX15_leastRow : MT := (cX15_leastRow, RX15, "leastRow", (some .int), 1, 21, 2)
def X15_leastRow_B2 : Nat → Int32 → Int32 → AH → Option (Int32 × AH)
  | 0, _, _, _ => none
  | n + 1, i0, i1, h =>
    if (nI 10) ≤ i1 then (
      some ((-1), h)
    ) else (
      BN (X15_has_f i0 i1 h) fun v2 h1 =>
      if v2 = 0 then (
        LT (i1 + nI 1) fun v3 =>
        X15_leastRow_B2 n i0 v3 h1
      ) else (
        some (i1, h1)
      )
    )
theorem jX15_leastRow_B2 (x : CT) : ∀ (n : Nat) (i0 : Int32) (i1 : Int32) (h : AH), J x qX15_leastRow ZI 2 [(0, .int i0), (1, .int i1)] [] h (X15_leastRow_B2 n i0 i1 h) := by
  intro n
  induction n with
  | zero => intro i0 i1 h; exact J_none
  | succ n ih =>
    intro i0 i1 h
    unfold X15_leastRow_B2
    refine J_iload_n 1 dX15_leastRow_2 rfl ?_
    refine J_bipush (v := nI 10) dX15_leastRow_3 rfl ?_
    refine J_icmp_ge (tgt := 24) dX15_leastRow_5 rfl ?_ ?_
    · refine J_iconst (v := (-1)) dX15_leastRow_24 rfl ?_
      exact J_iret dX15_leastRow_25
    · refine J_iload_n 0 dX15_leastRow_8 rfl ?_
      refine J_iload_n 1 dX15_leastRow_9 rfl ?_
      refine J.callS (n := 2) (As := [.int i0, .int i1]) (ctX15_has (lx x) (wx x) i0 i1 h) kw_8_177 kw_8_175 kw_8_176 kw_1_13 (by decide +kernel) rfl (by decide) (Nat.zero_le _) rfl dX15_leastRow_10 (fun v2 h1 => ?_)
      show J x _ _ 13 _ [.int v2] h1 _
      refine J_if_eq (tgt := 18) dX15_leastRow_13 rfl ?_ ?_
      · refine J_iincL (u := i1 + nI 1) 1 dX15_leastRow_18 rfl rfl (by decide) (SD.a (lvr := [(0, .int i0)]) [0] rfl rfl) (fun v3 => ?_)
        refine J_goto (tgt := 2) dX15_leastRow_21 rfl ?_
        exact J_sub [1, 0] rfl (ih i0 v3 h1)
      · refine J_iload_n 1 dX15_leastRow_16 rfl ?_
        exact J_iret dX15_leastRow_17
def X15_leastRow_f (i0 : Int32) (h : AH) : Option (Int32 × AH) :=
  X15_leastRow_B2 FU i0 (nI 0) h
theorem jX15_leastRow (x : CT) (i0 : Int32) (h : AH) : J x qX15_leastRow ZI 0 [(0, .int i0)] [] h (X15_leastRow_f i0 h) := by
  unfold X15_leastRow_f
  refine J_iconst (v := nI 0) dX15_leastRow_0 rfl ?_
  refine J_istore_n dX15_leastRow_1 (by decide) (SD.a (lvr := [(0, .int i0)]) [0] rfl rfl) ?_
  exact J_sub [1, 0] rfl (jX15_leastRow_B2 x FU i0 (nI 0) h)
theorem ctX15_leastRow (l : Launch) (w : WT) (i0 : Int32) (h : AH) : CM l w yX15_leastRow cX15_leastRow 2 (some .int) 1 21 KI [.int i0] h (X15_leastRow_f i0 h) :=
  CM.of (by decide +kernel) (by simp [lg_sl, rv_cat, cat_I, cat_L, cat_S]) (lv := [(0, .int i0)]) (by simp [lv_args, rv_cat, cat_I, cat_L, cat_S]) (fun x hx => by subst hx; exact jX15_leastRow x i0 h)
-- FallTrialsModel.mend(II)I
abbrev qX15_mend : MT := (cX15_mend, RX15, "mend", (some .int), 1, 22, 5)
def X15_mend_B96 (a0 : Nat) (i1 : Int32) (i2 : Int32) (h : AH) : Option (Int32 × AH) :=
  G (xc h a0 = 15) <|
  if (xI h a0 17) = (nI 6) then (
    G (xc h a0 = 15) <|
    BN (X15_refused_f a0 (nI 3) h) fun v17 h16 =>
    some (v17, h16)
  ) else (
    G (xc h a0 = 15) <|
    G (xc h (xR h a0 49) = 16) <|
    G (gx (xI h a0 17) (xz h (xR h a0 49))) <|
    LT (pI h (xR h a0 49) (xI h a0 17).toNatClampNeg i1) fun h5 =>
    G (xc h5 a0 = 15) <|
    G (xc h5 (xR h5 a0 50) = 16) <|
    G (gx (xI h5 a0 17) (xz h5 (xR h5 a0 50))) <|
    LT (pI h5 (xR h5 a0 50) (xI h5 a0 17).toNatClampNeg i2) fun h9 =>
    G (xc h9 a0 = 15) <|
    LT (pI h9 a0 17 ((xI h9 a0 17) + (nI 1))) fun h11 =>
    G (xc h11 a0 = 15) <|
    BN (X15_done_f a0 ((xI h11 a0 17) - (nI 1)) h11) fun v14 h13 =>
    some (v14, h13)
  )
theorem jX15_mend_B96 (x : CT) (a0 : Nat) (i1 : Int32) (i2 : Int32) (h : AH) : J x qX15_mend ZI 96 [(0, rv (zx x) a0), (1, .int i1), (2, .int i2)] [] h (X15_mend_B96 a0 i1 i2 h) := by
  unfold X15_mend_B96
  refine J_aload_n 0 dX15_mend_96 rv_is rfl ?_
  refine J_G (fun g1 => ?_)
  refine J_getI kc_15 17 (by decide) rfl rfl kw_6_227 dX15_mend_97 g1 ?_
  refine J_bipush (v := nI 6) dX15_mend_100 rfl ?_
  refine J_icmp_ne (tgt := 111) dX15_mend_102 rfl ?_ ?_
  · refine J_aload_n 0 dX15_mend_111 rv_is rfl ?_
    refine J_G (fun g2 => ?_)
    refine J_getR kc_15 49 (by decide) rfl rfl kw_7_19 dX15_mend_112 g2 ?_
    refine J_aload_n 0 dX15_mend_115 rv_is rfl ?_
    refine J_getI kc_15 17 (by decide) rfl rfl kw_6_227 dX15_mend_116 g2 ?_
    refine J_iload_n 1 dX15_mend_119 rfl ?_
    refine J_G (fun g3 => ?_)
    refine J_G (fun g4 => ?_)
    refine J_iast dX15_mend_120 g3 g4 ?_
    refine J_LTh (fun h5 => ?_)
    refine J_aload_n 0 dX15_mend_121 rv_is rfl ?_
    refine J_G (fun g6 => ?_)
    refine J_getR kc_15 50 (by decide) rfl rfl kw_7_20 dX15_mend_122 g6 ?_
    refine J_aload_n 0 dX15_mend_125 rv_is rfl ?_
    refine J_getI kc_15 17 (by decide) rfl rfl kw_6_227 dX15_mend_126 g6 ?_
    refine J_iload_n 2 dX15_mend_129 rfl ?_
    refine J_G (fun g7 => ?_)
    refine J_G (fun g8 => ?_)
    refine J_iast dX15_mend_130 g7 g8 ?_
    refine J_LTh (fun h9 => ?_)
    refine J_aload_n 0 dX15_mend_131 rv_is rfl ?_
    refine J_dup dX15_mend_132 rv_cat ?_
    refine J_G (fun g10 => ?_)
    refine J_getI kc_15 17 (by decide) rfl rfl kw_6_227 dX15_mend_133 g10 ?_
    refine J_iconst (v := nI 1) dX15_mend_136 rfl ?_
    refine J_iadd dX15_mend_137 ?_
    refine J_putI kc_15 17 (by decide) rfl rfl rfl rfl (Or.inl rfl) kw_6_227 dX15_mend_138 g10 ?_
    refine J_LTh (fun h11 => ?_)
    refine J_aload_n 0 dX15_mend_141 rv_is rfl ?_
    refine J_aload_n 0 dX15_mend_142 rv_is rfl ?_
    refine J_G (fun g12 => ?_)
    refine J_getI kc_15 17 (by decide) rfl rfl kw_6_227 dX15_mend_143 g12 ?_
    refine J_iconst (v := nI 1) dX15_mend_146 rfl ?_
    refine J_isub dX15_mend_147 ?_
    refine J.callV (n := 1) (As := [.int ((xI h11 a0 17) - (nI 1))]) kc_15 (ctX15_done (lx x) (wx x) a0 ((xI h11 a0 17) - (nI 1)) h11) kw_8_103 kw_8_100 kw_8_102 kp_24 kw_1_13 (by decide +kernel) rfl (by decide) (Nat.zero_le _) rfl dX15_mend_148 g12 (fun v14 h13 => ?_)
    show J x _ _ 151 _ [.int v14] h13 _
    exact J_iret dX15_mend_151
  · refine J_aload_n 0 dX15_mend_105 rv_is rfl ?_
    refine J_iconst (v := nI 3) dX15_mend_106 rfl ?_
    refine J_G (fun g15 => ?_)
    refine J.callV (n := 1) (As := [.int (nI 3)]) kc_15 (ctX15_refused (lx x) (wx x) a0 (nI 3) h) kw_7_139 kw_7_136 kw_7_138 kp_8 kw_1_13 (by decide +kernel) rfl (by decide) (Nat.zero_le _) rfl dX15_mend_107 g15 (fun v17 h16 => ?_)
    show J x _ _ 110 _ [.int v17] h16 _
    exact J_iret dX15_mend_110
def X15_mend_B90 (k53 : (Nat → Int32 → Int32 → Int32 → AH → Option (Int32 × AH))) (a0 : Nat) (i1 : Int32) (i2 : Int32) (i4 : Int32) (h : AH) : Option (Int32 × AH) :=
  LT (i4 + nI 1) fun v1 =>
  k53 a0 i1 i2 v1 h
theorem jX15_mend_B90 (x : CT) (k53 : (Nat → Int32 → Int32 → Int32 → AH → Option (Int32 × AH))) (hk53 : ∀ (a0 : Nat) (i1 : Int32) (i2 : Int32) (i4 : Int32) (h : AH), J x qX15_mend ZI 53 [(0, rv (zx x) a0), (1, .int i1), (2, .int i2), (4, .int i4)] [] h (k53 a0 i1 i2 i4 h)) (a0 : Nat) (i1 : Int32) (i2 : Int32) (i4 : Int32) (h : AH) : J x qX15_mend ZI 90 [(0, rv (zx x) a0), (1, .int i1), (2, .int i2), (4, .int i4)] [] h (X15_mend_B90 k53 a0 i1 i2 i4 h) := by
  unfold X15_mend_B90
  refine J_iincL (u := i4 + nI 1) 3 dX15_mend_90 rfl rfl (by decide) (SD.a (lvr := [(0, rv (zx x) a0), (1, .int i1), (2, .int i2)]) [0, 1, 2] rfl rfl) (fun v1 => ?_)
  refine J_goto (tgt := 53) dX15_mend_93 rfl ?_
  exact J_sub [1, 2, 3, 0] rfl (hk53 a0 i1 i2 v1 h)
def X15_mend_B84 (a0 : Nat) (h : AH) : Option (Int32 × AH) :=
  G (xc h a0 = 15) <|
  BN (X15_refused_f a0 (nI 5) h) fun v3 h2 =>
  some (v3, h2)
theorem jX15_mend_B84 (x : CT) (a0 : Nat) (h : AH) : J x qX15_mend ZI 84 [(0, rv (zx x) a0)] [] h (X15_mend_B84 a0 h) := by
  unfold X15_mend_B84
  refine J_aload_n 0 dX15_mend_84 rv_is rfl ?_
  refine J_iconst (v := nI 5) dX15_mend_85 rfl ?_
  refine J_G (fun g1 => ?_)
  refine J.callV (n := 1) (As := [.int (nI 5)]) kc_15 (ctX15_refused (lx x) (wx x) a0 (nI 5) h) kw_7_139 kw_7_136 kw_7_138 kp_8 kw_1_13 (by decide +kernel) rfl (by decide) (Nat.zero_le _) rfl dX15_mend_86 g1 (fun v3 h2 => ?_)
  show J x _ _ 89 _ [.int v3] h2 _
  exact J_iret dX15_mend_89
def X15_mend_B53 : Nat → Nat → Int32 → Int32 → Int32 → AH → Option (Int32 × AH)
  | 0, _, _, _, _, _ => none
  | n + 1, a0, i1, i2, i4, h =>
    G (xc h a0 = 15) <|
    if (xI h a0 17) ≤ i4 then (
      X15_mend_B96 a0 i1 i2 h
    ) else (
      G (xc h a0 = 15) <|
      G (xc h (xR h a0 49) = 16) <|
      G (gx i4 (xz h (xR h a0 49))) <|
      if (xI h (xR h a0 49) i4.toNatClampNeg) = i1 then (
        G (xc h a0 = 15) <|
        G (xc h (xR h a0 50) = 16) <|
        G (gx i4 (xz h (xR h a0 50))) <|
        if (xI h (xR h a0 50) i4.toNatClampNeg) = i2 then (
          X15_mend_B84 a0 h
        ) else (
          X15_mend_B90 (X15_mend_B53 n) a0 i1 i2 i4 h
        )
      ) else (
        X15_mend_B90 (X15_mend_B53 n) a0 i1 i2 i4 h
      )
    )
theorem jX15_mend_B53 (x : CT) : ∀ (n : Nat) (a0 : Nat) (i1 : Int32) (i2 : Int32) (i4 : Int32) (h : AH), J x qX15_mend ZI 53 [(0, rv (zx x) a0), (1, .int i1), (2, .int i2), (4, .int i4)] [] h (X15_mend_B53 n a0 i1 i2 i4 h) := by
  intro n
  induction n with
  | zero => intro a0 i1 i2 i4 h; exact J_none
  | succ n ih =>
    intro a0 i1 i2 i4 h
    unfold X15_mend_B53
    refine J_iload 3 dX15_mend_53 rfl ?_
    refine J_aload_n 0 dX15_mend_55 rv_is rfl ?_
    refine J_G (fun g1 => ?_)
    refine J_getI kc_15 17 (by decide) rfl rfl kw_6_227 dX15_mend_56 g1 ?_
    refine J_icmp_ge (tgt := 96) dX15_mend_59 rfl ?_ ?_
    · exact J_sub [0, 1, 2] rfl (jX15_mend_B96 x a0 i1 i2 h)
    · refine J_aload_n 0 dX15_mend_62 rv_is rfl ?_
      refine J_G (fun g2 => ?_)
      refine J_getR kc_15 49 (by decide) rfl rfl kw_7_19 dX15_mend_63 g2 ?_
      refine J_iload 3 dX15_mend_66 rfl ?_
      refine J_G (fun g3 => ?_)
      refine J_G (fun g4 => ?_)
      refine J_iald dX15_mend_68 g3 g4 ?_
      refine J_iload_n 1 dX15_mend_69 rfl ?_
      refine J_icmp_ne (tgt := 90) dX15_mend_70 rfl ?_ ?_
      · exact (jX15_mend_B90 x (X15_mend_B53 n) ih a0 i1 i2 i4 h)
      · refine J_aload_n 0 dX15_mend_73 rv_is rfl ?_
        refine J_G (fun g5 => ?_)
        refine J_getR kc_15 50 (by decide) rfl rfl kw_7_20 dX15_mend_74 g5 ?_
        refine J_iload 3 dX15_mend_77 rfl ?_
        refine J_G (fun g6 => ?_)
        refine J_G (fun g7 => ?_)
        refine J_iald dX15_mend_79 g6 g7 ?_
        refine J_iload_n 2 dX15_mend_80 rfl ?_
        refine J_icmp_ne (tgt := 90) dX15_mend_81 rfl ?_ ?_
        · exact (jX15_mend_B90 x (X15_mend_B53 n) ih a0 i1 i2 i4 h)
        · exact J_sub [0] rfl (jX15_mend_B84 x a0 h)
def X15_mend_B39 (a0 : Nat) (i1 : Int32) (i2 : Int32) (is0 : Int32) (h : AH) : Option (Int32 × AH) :=
  if is0 = 0 then (
    G (xc h a0 = 15) <|
    BN (X15_refused_f a0 (nI 1) h) fun v3 h2 =>
    some (v3, h2)
  ) else (
    X15_mend_B53 FU a0 i1 i2 (nI 0) h
  )
theorem jX15_mend_B39 (x : CT) (a0 : Nat) (i1 : Int32) (i2 : Int32) (is0 : Int32) (h : AH) : J x qX15_mend ZI 39 [(0, rv (zx x) a0), (1, .int i1), (2, .int i2)] [.int is0] h (X15_mend_B39 a0 i1 i2 is0 h) := by
  unfold X15_mend_B39
  refine J_istore_n dX15_mend_39 (by decide) (SD.a (lvr := [(0, rv (zx x) a0), (1, .int i1), (2, .int i2)]) [0, 1, 2] rfl rfl) ?_
  refine J_iload_n 0 dX15_mend_40 rfl ?_
  refine J_if_ne (tgt := 50) dX15_mend_41 rfl ?_ ?_
  · refine J_iconst (v := nI 0) dX15_mend_50 rfl ?_
    refine J_istore dX15_mend_51 (by decide) (SD.a (lvr := [(0, rv (zx x) a0), (1, .int i1), (2, .int i2)]) [1, 2, 3] rfl rfl) ?_
    exact J_sub [1, 2, 3, 0] rfl (jX15_mend_B53 x FU a0 i1 i2 (nI 0) h)
  · refine J_aload_n 1 dX15_mend_44 rv_is rfl ?_
    refine J_iconst (v := nI 1) dX15_mend_45 rfl ?_
    refine J_G (fun g1 => ?_)
    refine J.callV (n := 1) (As := [.int (nI 1)]) kc_15 (ctX15_refused (lx x) (wx x) a0 (nI 1) h) kw_7_139 kw_7_136 kw_7_138 kp_8 kw_1_13 (by decide +kernel) rfl (by decide) (Nat.zero_le _) rfl dX15_mend_46 g1 (fun v3 h2 => ?_)
    show J x _ _ 49 _ [.int v3] h2 _
    exact J_iret dX15_mend_49
def X15_mend_B38 (a0 : Nat) (i1 : Int32) (i2 : Int32) (h : AH) : Option (Int32 × AH) :=
  X15_mend_B39 a0 i1 i2 (nI 0) h
theorem jX15_mend_B38 (x : CT) (a0 : Nat) (i1 : Int32) (i2 : Int32) (h : AH) : J x qX15_mend ZI 38 [(0, rv (zx x) a0), (1, .int i1), (2, .int i2)] [] h (X15_mend_B38 a0 i1 i2 h) := by
  unfold X15_mend_B38
  refine J_iconst (v := nI 0) dX15_mend_38 rfl ?_
  exact (jX15_mend_B39 x a0 i1 i2 (nI 0) h)
def X15_mend_f (a0 : Nat) (i1 : Int32) (i2 : Int32) (h : AH) : Option (Int32 × AH) :=
  G (xc h a0 = 15) <|
  LT (pI h a0 0 (nI 0)) fun h2 =>
  if i1 = 0 then (
    G (xc h2 a0 = 15) <|
    BN (X15_isRow_f a0 i2 h2) fun v10 h9 =>
    X15_mend_B39 a0 i1 i2 v10 h9
  ) else (
    BN (X15_in_f i1 (nI 1) (nI 2) h2) fun v4 h3 =>
    if v4 = 0 then (
      X15_mend_B38 a0 i1 i2 h3
    ) else (
      G (xc h3 a0 = 15) <|
      BN (X15_isSend_f a0 i2 h3) fun v7 h6 =>
      if v7 = 0 then (
        X15_mend_B38 a0 i1 i2 h6
      ) else (
        X15_mend_B39 a0 i1 i2 (nI 1) h6
      )
    )
  )
theorem jX15_mend (x : CT) (a0 : Nat) (i1 : Int32) (i2 : Int32) (h : AH) : J x qX15_mend ZI 0 [(0, rv (zx x) a0), (1, .int i1), (2, .int i2)] [] h (X15_mend_f a0 i1 i2 h) := by
  unfold X15_mend_f
  refine J_aload_n 0 dX15_mend_0 rv_is rfl ?_
  refine J_iconst (v := nI 0) dX15_mend_1 rfl ?_
  refine J_G (fun g1 => ?_)
  refine J_putI kc_15 0 (by decide) rfl rfl rfl rfl (Or.inl rfl) kw_6_210 dX15_mend_2 g1 ?_
  refine J_LTh (fun h2 => ?_)
  refine J_iload_n 1 dX15_mend_5 rfl ?_
  refine J_if_ne (tgt := 17) dX15_mend_6 rfl ?_ ?_
  · refine J_iload_n 1 dX15_mend_17 rfl ?_
    refine J_iconst (v := nI 1) dX15_mend_18 rfl ?_
    refine J_iconst (v := nI 2) dX15_mend_19 rfl ?_
    refine J.callS (n := 3) (As := [.int i1, .int (nI 1), .int (nI 2)]) (ctX15_in (lx x) (wx x) i1 (nI 1) (nI 2) h2) kw_8_122 kw_8_120 kw_8_121 kw_1_13 (by decide +kernel) rfl (by decide) (Nat.zero_le _) rfl dX15_mend_20 (fun v4 h3 => ?_)
    show J x _ _ 23 _ [.int v4] h3 _
    refine J_if_eq (tgt := 38) dX15_mend_23 rfl ?_ ?_
    · exact (jX15_mend_B38 x a0 i1 i2 h3)
    · refine J_aload_n 0 dX15_mend_26 rv_is rfl ?_
      refine J_iload_n 2 dX15_mend_27 rfl ?_
      refine J_G (fun g5 => ?_)
      refine J.callV (n := 1) (As := [.int i2]) kc_15 (ctX15_isSend (lx x) (wx x) a0 i2 h3) kw_9_9 kw_9_6 kw_9_8 kp_47 kw_1_13 (by decide +kernel) rfl (by decide) (Nat.zero_le _) rfl dX15_mend_28 g5 (fun v7 h6 => ?_)
      show J x _ _ 31 _ [.int v7] h6 _
      refine J_if_eq (tgt := 38) dX15_mend_31 rfl ?_ ?_
      · exact (jX15_mend_B38 x a0 i1 i2 h6)
      · refine J_iconst (v := nI 1) dX15_mend_34 rfl ?_
        refine J_goto (tgt := 39) dX15_mend_35 rfl ?_
        exact (jX15_mend_B39 x a0 i1 i2 (nI 1) h6)
  · refine J_aload_n 0 dX15_mend_9 rv_is rfl ?_
    refine J_iload_n 2 dX15_mend_10 rfl ?_
    refine J_G (fun g8 => ?_)
    refine J.callV (n := 1) (As := [.int i2]) kc_15 (ctX15_isRow (lx x) (wx x) a0 i2 h2) kw_8_221 kw_8_218 kw_8_220 kp_43 kw_1_13 (by decide +kernel) rfl (by decide) (Nat.zero_le _) rfl dX15_mend_11 g8 (fun v10 h9 => ?_)
    show J x _ _ 14 _ [.int v10] h9 _
    refine J_goto (tgt := 39) dX15_mend_14 rfl ?_
    exact (jX15_mend_B39 x a0 i1 i2 v10 h9)
theorem ctX15_mend (l : Launch) (w : WT) (a0 : Nat) (i1 : Int32) (i2 : Int32) (h : AH) : CM l w yX15_mend cX15_mend 5 (some .int) 1 22 KI [rv (w.1) a0, .int i1, .int i2] h (X15_mend_f a0 i1 i2 h) :=
  CM.of (by decide +kernel) (by simp [lg_sl, rv_cat, cat_I, cat_L, cat_S]) (lv := [(0, rv (w.1) a0), (1, .int i1), (2, .int i2)]) (by simp [lv_args, rv_cat, cat_I, cat_L, cat_S]) (fun x hx => by subst hx; exact jX15_mend x a0 i1 i2 h)
-- FallTrialsModel.keep()I
abbrev qX15_keep : MT := (cX15_keep, RX15, "keep", (some .int), 1, 21, 2)
def X15_keep_B95 (a0 : Nat) (h : AH) : Option (Int32 × AH) :=
  G (xc h a0 = 15) <|
  LT (pI h a0 18 ((xI h a0 18) + (nI 1))) fun h2 =>
  G (xc h2 a0 = 15) <|
  BN (X15_done_f a0 (xI h2 a0 18) h2) fun v5 h4 =>
  some (v5, h4)
theorem jX15_keep_B95 (x : CT) (a0 : Nat) (h : AH) : J x qX15_keep ZI 95 [(0, rv (zx x) a0)] [] h (X15_keep_B95 a0 h) := by
  unfold X15_keep_B95
  refine J_aload_n 0 dX15_keep_95 rv_is rfl ?_
  refine J_dup dX15_keep_96 rv_cat ?_
  refine J_G (fun g1 => ?_)
  refine J_getI kc_15 18 (by decide) rfl rfl kw_6_228 dX15_keep_97 g1 ?_
  refine J_iconst (v := nI 1) dX15_keep_100 rfl ?_
  refine J_iadd dX15_keep_101 ?_
  refine J_putI kc_15 18 (by decide) rfl rfl rfl rfl (Or.inl rfl) kw_6_228 dX15_keep_102 g1 ?_
  refine J_LTh (fun h2 => ?_)
  refine J_aload_n 0 dX15_keep_105 rv_is rfl ?_
  refine J_aload_n 0 dX15_keep_106 rv_is rfl ?_
  refine J_G (fun g3 => ?_)
  refine J_getI kc_15 18 (by decide) rfl rfl kw_6_228 dX15_keep_107 g3 ?_
  refine J.callV (n := 1) (As := [.int (xI h2 a0 18)]) kc_15 (ctX15_done (lx x) (wx x) a0 (xI h2 a0 18) h2) kw_8_103 kw_8_100 kw_8_102 kp_24 kw_1_13 (by decide +kernel) rfl (by decide) (Nat.zero_le _) rfl dX15_keep_110 g3 (fun v5 h4 => ?_)
  show J x _ _ 113 _ [.int v5] h4 _
  exact J_iret dX15_keep_113
def X15_keep_B61 : Nat → Nat → Int32 → AH → Option (Int32 × AH)
  | 0, _, _, _ => none
  | n + 1, a0, i1, h =>
    G (xc h a0 = 15) <|
    if (xI h a0 16) ≤ i1 then (
      X15_keep_B95 a0 h
    ) else (
      G (xc h a0 = 15) <|
      G (xc h (xR h a0 20) = 16) <|
      G (gx i1 (xz h (xR h a0 20))) <|
      G (xc h (xR h a0 22) = 16) <|
      G (gx (((nI 6) * (xI h a0 18)) + i1) (xz h (xR h a0 22))) <|
      LT (pI h (xR h a0 22) (((nI 6) * (xI h a0 18)) + i1).toNatClampNeg (xI h (xR h a0 20) i1.toNatClampNeg)) fun h7 =>
      LT (i1 + nI 1) fun v8 =>
      X15_keep_B61 n a0 v8 h7
    )
theorem jX15_keep_B61 (x : CT) : ∀ (n : Nat) (a0 : Nat) (i1 : Int32) (h : AH), J x qX15_keep ZI 61 [(0, rv (zx x) a0), (1, .int i1)] [] h (X15_keep_B61 n a0 i1 h) := by
  intro n
  induction n with
  | zero => intro a0 i1 h; exact J_none
  | succ n ih =>
    intro a0 i1 h
    unfold X15_keep_B61
    refine J_iload_n 1 dX15_keep_61 rfl ?_
    refine J_aload_n 0 dX15_keep_62 rv_is rfl ?_
    refine J_G (fun g1 => ?_)
    refine J_getI kc_15 16 (by decide) rfl rfl kw_6_226 dX15_keep_63 g1 ?_
    refine J_icmp_ge (tgt := 95) dX15_keep_66 rfl ?_ ?_
    · exact J_sub [0] rfl (jX15_keep_B95 x a0 h)
    · refine J_aload_n 0 dX15_keep_69 rv_is rfl ?_
      refine J_G (fun g2 => ?_)
      refine J_getR kc_15 22 (by decide) rfl rfl kw_6_232 dX15_keep_70 g2 ?_
      refine J_bipush (v := nI 6) dX15_keep_73 rfl ?_
      refine J_aload_n 0 dX15_keep_75 rv_is rfl ?_
      refine J_getI kc_15 18 (by decide) rfl rfl kw_6_228 dX15_keep_76 g2 ?_
      refine J_imul dX15_keep_79 ?_
      refine J_iload_n 1 dX15_keep_80 rfl ?_
      refine J_iadd dX15_keep_81 ?_
      refine J_aload_n 0 dX15_keep_82 rv_is rfl ?_
      refine J_getR kc_15 20 (by decide) rfl rfl kw_6_230 dX15_keep_83 g2 ?_
      refine J_iload_n 1 dX15_keep_86 rfl ?_
      refine J_G (fun g3 => ?_)
      refine J_G (fun g4 => ?_)
      refine J_iald dX15_keep_87 g3 g4 ?_
      refine J_G (fun g5 => ?_)
      refine J_G (fun g6 => ?_)
      refine J_iast dX15_keep_88 g5 g6 ?_
      refine J_LTh (fun h7 => ?_)
      refine J_iincL (u := i1 + nI 1) 1 dX15_keep_89 rfl rfl (by decide) (SD.c (lvr := [(0, rv (zx x) a0)]) [0] rfl rfl 0 rfl rfl rv_cat) (fun v8 => ?_)
      refine J_goto (tgt := 61) dX15_keep_92 rfl ?_
      exact J_sub [1, 0] rfl (ih a0 v8 h7)
def X15_keep_f (a0 : Nat) (h : AH) : Option (Int32 × AH) :=
  G (xc h a0 = 15) <|
  LT (pI h a0 0 (nI 0)) fun h2 =>
  G (xc h2 a0 = 15) <|
  if (xR h2 a0 4) = 0 then (
    G (xc h2 a0 = 15) <|
    BN (X15_refused_f a0 (nI 1) h2) fun v18 h17 =>
    some (v18, h17)
  ) else (
    G (xc h2 a0 = 15) <|
    if (xI h2 a0 16) = 0 then (
      G (xc h2 a0 = 15) <|
      BN (X15_refused_f a0 (nI 5) h2) fun v15 h14 =>
      some (v15, h14)
    ) else (
      G (xc h2 a0 = 15) <|
      if (xI h2 a0 18) = (nI 8) then (
        G (xc h2 a0 = 15) <|
        BN (X15_refused_f a0 (nI 3) h2) fun v12 h11 =>
        some (v12, h11)
      ) else (
        G (xc h2 a0 = 15) <|
        G (xc h2 (xR h2 a0 21) = 16) <|
        G (gx (xI h2 a0 18) (xz h2 (xR h2 a0 21))) <|
        LT (pI h2 (xR h2 a0 21) (xI h2 a0 18).toNatClampNeg (xI h2 a0 16)) fun h9 =>
        X15_keep_B61 FU a0 (nI 0) h9
      )
    )
  )
theorem jX15_keep (x : CT) (a0 : Nat) (h : AH) : J x qX15_keep ZI 0 [(0, rv (zx x) a0)] [] h (X15_keep_f a0 h) := by
  unfold X15_keep_f
  refine J_aload_n 0 dX15_keep_0 rv_is rfl ?_
  refine J_iconst (v := nI 0) dX15_keep_1 rfl ?_
  refine J_G (fun g1 => ?_)
  refine J_putI kc_15 0 (by decide) rfl rfl rfl rfl (Or.inl rfl) kw_6_210 dX15_keep_2 g1 ?_
  refine J_LTh (fun h2 => ?_)
  refine J_aload_n 0 dX15_keep_5 rv_is rfl ?_
  refine J_G (fun g3 => ?_)
  refine J_getR kc_15 4 (by decide) rfl rfl kw_6_214 dX15_keep_6 g3 ?_
  refine J_ifnonnull (tgt := 18) dX15_keep_9 rfl ?_ ?_
  · refine J_aload_n 0 dX15_keep_18 rv_is rfl ?_
    refine J_G (fun g4 => ?_)
    refine J_getI kc_15 16 (by decide) rfl rfl kw_6_226 dX15_keep_19 g4 ?_
    refine J_if_ne (tgt := 31) dX15_keep_22 rfl ?_ ?_
    · refine J_aload_n 0 dX15_keep_31 rv_is rfl ?_
      refine J_G (fun g5 => ?_)
      refine J_getI kc_15 18 (by decide) rfl rfl kw_6_228 dX15_keep_32 g5 ?_
      refine J_bipush (v := nI 8) dX15_keep_35 rfl ?_
      refine J_icmp_ne (tgt := 46) dX15_keep_37 rfl ?_ ?_
      · refine J_aload_n 0 dX15_keep_46 rv_is rfl ?_
        refine J_G (fun g6 => ?_)
        refine J_getR kc_15 21 (by decide) rfl rfl kw_6_231 dX15_keep_47 g6 ?_
        refine J_aload_n 0 dX15_keep_50 rv_is rfl ?_
        refine J_getI kc_15 18 (by decide) rfl rfl kw_6_228 dX15_keep_51 g6 ?_
        refine J_aload_n 0 dX15_keep_54 rv_is rfl ?_
        refine J_getI kc_15 16 (by decide) rfl rfl kw_6_226 dX15_keep_55 g6 ?_
        refine J_G (fun g7 => ?_)
        refine J_G (fun g8 => ?_)
        refine J_iast dX15_keep_58 g7 g8 ?_
        refine J_LTh (fun h9 => ?_)
        refine J_iconst (v := nI 0) dX15_keep_59 rfl ?_
        refine J_istore_n dX15_keep_60 (by decide) (SD.c (lvr := [(0, rv (zx x) a0)]) [0] rfl rfl 0 rfl rfl rv_cat) ?_
        exact J_sub [1, 0] rfl (jX15_keep_B61 x FU a0 (nI 0) h9)
      · refine J_aload_n 0 dX15_keep_40 rv_is rfl ?_
        refine J_iconst (v := nI 3) dX15_keep_41 rfl ?_
        refine J_G (fun g10 => ?_)
        refine J.callV (n := 1) (As := [.int (nI 3)]) kc_15 (ctX15_refused (lx x) (wx x) a0 (nI 3) h2) kw_7_139 kw_7_136 kw_7_138 kp_8 kw_1_13 (by decide +kernel) rfl (by decide) (Nat.zero_le _) rfl dX15_keep_42 g10 (fun v12 h11 => ?_)
        show J x _ _ 45 _ [.int v12] h11 _
        exact J_iret dX15_keep_45
    · refine J_aload_n 0 dX15_keep_25 rv_is rfl ?_
      refine J_iconst (v := nI 5) dX15_keep_26 rfl ?_
      refine J_G (fun g13 => ?_)
      refine J.callV (n := 1) (As := [.int (nI 5)]) kc_15 (ctX15_refused (lx x) (wx x) a0 (nI 5) h2) kw_7_139 kw_7_136 kw_7_138 kp_8 kw_1_13 (by decide +kernel) rfl (by decide) (Nat.zero_le _) rfl dX15_keep_27 g13 (fun v15 h14 => ?_)
      show J x _ _ 30 _ [.int v15] h14 _
      exact J_iret dX15_keep_30
  · refine J_aload_n 0 dX15_keep_12 rv_is rfl ?_
    refine J_iconst (v := nI 1) dX15_keep_13 rfl ?_
    refine J_G (fun g16 => ?_)
    refine J.callV (n := 1) (As := [.int (nI 1)]) kc_15 (ctX15_refused (lx x) (wx x) a0 (nI 1) h2) kw_7_139 kw_7_136 kw_7_138 kp_8 kw_1_13 (by decide +kernel) rfl (by decide) (Nat.zero_le _) rfl dX15_keep_14 g16 (fun v18 h17 => ?_)
    show J x _ _ 17 _ [.int v18] h17 _
    exact J_iret dX15_keep_17
theorem ctX15_keep (l : Launch) (w : WT) (a0 : Nat) (h : AH) : CM l w yX15_keep cX15_keep 2 (some .int) 1 21 KI [rv (w.1) a0] h (X15_keep_f a0 h) :=
  CM.of (by decide +kernel) (by simp [lg_sl, rv_cat, cat_I, cat_L, cat_S]) (lv := [(0, rv (w.1) a0)]) (by simp [lv_args, rv_cat, cat_I, cat_L, cat_S]) (fun x hx => by subst hx; exact jX15_keep x a0 h)
-- FallTrialsModel.makes(I)V
abbrev qX15_makes : MT := (cX15_makes, RX15, "makes", none, 1, 21, 3)
def X15_makes_B97 (k2 : (Nat → Int32 → Int32 → AH → Option (Unit × AH))) (a0 : Nat) (i1 : Int32) (i2 : Int32) (h : AH) : Option (Unit × AH) :=
  LT (i2 + nI 1) fun v1 =>
  k2 a0 i1 v1 h
theorem jX15_makes_B97 (x : CT) (k2 : (Nat → Int32 → Int32 → AH → Option (Unit × AH))) (hk2 : ∀ (a0 : Nat) (i1 : Int32) (i2 : Int32) (h : AH), J x qX15_makes ZV 2 [(0, rv (zx x) a0), (1, .int i1), (2, .int i2)] [] h (k2 a0 i1 i2 h)) (a0 : Nat) (i1 : Int32) (i2 : Int32) (h : AH) : J x qX15_makes ZV 97 [(0, rv (zx x) a0), (1, .int i1), (2, .int i2)] [] h (X15_makes_B97 k2 a0 i1 i2 h) := by
  unfold X15_makes_B97
  refine J_iincL (u := i2 + nI 1) 2 dX15_makes_97 rfl rfl (by decide) (SD.a (lvr := [(0, rv (zx x) a0), (1, .int i1)]) [0, 1] rfl rfl) (fun v1 => ?_)
  refine J_goto (tgt := 2) dX15_makes_100 rfl ?_
  exact J_sub [1, 2, 0] rfl (hk2 a0 i1 v1 h)
def X15_makes_B2 : Nat → Nat → Int32 → Int32 → AH → Option (Unit × AH)
  | 0, _, _, _, _ => none
  | n + 1, a0, i1, i2, h =>
    G (xc h a0 = 15) <|
    if (xI h a0 17) ≤ i2 then (
      some ((), h)
    ) else (
      BN (X15_has_f i1 i2 h) fun v3 h2 =>
      if v3 = 0 then (
        X15_makes_B97 (X15_makes_B2 n) a0 i1 i2 h2
      ) else (
        G (xc h2 a0 = 15) <|
        G (xc h2 (xR h2 a0 49) = 16) <|
        G (gx i2 (xz h2 (xR h2 a0 49))) <|
        if (xI h2 (xR h2 a0 49) i2.toNatClampNeg) = 0 then (
          G (xc h2 a0 = 15) <|
          G (xc h2 (xR h2 a0 50) = 16) <|
          G (gx i2 (xz h2 (xR h2 a0 50))) <|
          LT (pI h2 a0 23 ((xI h2 a0 23) ||| ((nI 1) <<< ((xI h2 (xR h2 a0 50) i2.toNatClampNeg) &&& 31)))) fun h21 =>
          X15_makes_B97 (X15_makes_B2 n) a0 i1 i2 h21
        ) else (
          G (xc h2 a0 = 15) <|
          G (xc h2 (xR h2 a0 49) = 16) <|
          G (gx i2 (xz h2 (xR h2 a0 49))) <|
          if (xI h2 (xR h2 a0 49) i2.toNatClampNeg) = (nI 1) then (
            G (xc h2 a0 = 15) <|
            G (xc h2 (xR h2 a0 50) = 16) <|
            G (gx i2 (xz h2 (xR h2 a0 50))) <|
            LT (pI h2 a0 24 ((xI h2 a0 24) ||| ((nI 1) <<< ((xI h2 (xR h2 a0 50) i2.toNatClampNeg) &&& 31)))) fun h17 =>
            X15_makes_B97 (X15_makes_B2 n) a0 i1 i2 h17
          ) else (
            G (xc h2 a0 = 15) <|
            G (xc h2 (xR h2 a0 50) = 16) <|
            G (gx i2 (xz h2 (xR h2 a0 50))) <|
            LT (pI h2 a0 25 ((xI h2 a0 25) ||| ((nI 1) <<< ((xI h2 (xR h2 a0 50) i2.toNatClampNeg) &&& 31)))) fun h13 =>
            X15_makes_B97 (X15_makes_B2 n) a0 i1 i2 h13
          )
        )
      )
    )
theorem jX15_makes_B2 (x : CT) : ∀ (n : Nat) (a0 : Nat) (i1 : Int32) (i2 : Int32) (h : AH), J x qX15_makes ZV 2 [(0, rv (zx x) a0), (1, .int i1), (2, .int i2)] [] h (X15_makes_B2 n a0 i1 i2 h) := by
  intro n
  induction n with
  | zero => intro a0 i1 i2 h; exact J_none
  | succ n ih =>
    intro a0 i1 i2 h
    unfold X15_makes_B2
    refine J_iload_n 2 dX15_makes_2 rfl ?_
    refine J_aload_n 0 dX15_makes_3 rv_is rfl ?_
    refine J_G (fun g1 => ?_)
    refine J_getI kc_15 17 (by decide) rfl rfl kw_6_227 dX15_makes_4 g1 ?_
    refine J_icmp_ge (tgt := 103) dX15_makes_7 rfl ?_ ?_
    · exact J_vret dX15_makes_103
    · refine J_iload_n 1 dX15_makes_10 rfl ?_
      refine J_iload_n 2 dX15_makes_11 rfl ?_
      refine J.callS (n := 2) (As := [.int i1, .int i2]) (ctX15_has (lx x) (wx x) i1 i2 h) kw_8_177 kw_8_175 kw_8_176 kw_1_13 (by decide +kernel) rfl (by decide) (Nat.zero_le _) rfl dX15_makes_12 (fun v3 h2 => ?_)
      show J x _ _ 15 _ [.int v3] h2 _
      refine J_if_ne (tgt := 21) dX15_makes_15 rfl ?_ ?_
      · refine J_aload_n 0 dX15_makes_21 rv_is rfl ?_
        refine J_G (fun g4 => ?_)
        refine J_getR kc_15 49 (by decide) rfl rfl kw_7_19 dX15_makes_22 g4 ?_
        refine J_iload_n 2 dX15_makes_25 rfl ?_
        refine J_G (fun g5 => ?_)
        refine J_G (fun g6 => ?_)
        refine J_iald dX15_makes_26 g5 g6 ?_
        refine J_if_ne (tgt := 50) dX15_makes_27 rfl ?_ ?_
        · refine J_aload_n 0 dX15_makes_50 rv_is rfl ?_
          refine J_G (fun g7 => ?_)
          refine J_getR kc_15 49 (by decide) rfl rfl kw_7_19 dX15_makes_51 g7 ?_
          refine J_iload_n 2 dX15_makes_54 rfl ?_
          refine J_G (fun g8 => ?_)
          refine J_G (fun g9 => ?_)
          refine J_iald dX15_makes_55 g8 g9 ?_
          refine J_iconst (v := nI 1) dX15_makes_56 rfl ?_
          refine J_icmp_ne (tgt := 80) dX15_makes_57 rfl ?_ ?_
          · refine J_aload_n 0 dX15_makes_80 rv_is rfl ?_
            refine J_dup dX15_makes_81 rv_cat ?_
            refine J_G (fun g10 => ?_)
            refine J_getI kc_15 25 (by decide) rfl rfl kw_6_235 dX15_makes_82 g10 ?_
            refine J_iconst (v := nI 1) dX15_makes_85 rfl ?_
            refine J_aload_n 0 dX15_makes_86 rv_is rfl ?_
            refine J_getR kc_15 50 (by decide) rfl rfl kw_7_20 dX15_makes_87 g10 ?_
            refine J_iload_n 2 dX15_makes_90 rfl ?_
            refine J_G (fun g11 => ?_)
            refine J_G (fun g12 => ?_)
            refine J_iald dX15_makes_91 g11 g12 ?_
            refine J_ishl dX15_makes_92 ?_
            refine J_ior dX15_makes_93 ?_
            refine J_putI kc_15 25 (by decide) rfl rfl rfl rfl (Or.inl rfl) kw_6_235 dX15_makes_94 g10 ?_
            refine J_LTh (fun h13 => ?_)
            exact (jX15_makes_B97 x (X15_makes_B2 n) ih a0 i1 i2 h13)
          · refine J_aload_n 0 dX15_makes_60 rv_is rfl ?_
            refine J_dup dX15_makes_61 rv_cat ?_
            refine J_G (fun g14 => ?_)
            refine J_getI kc_15 24 (by decide) rfl rfl kw_6_234 dX15_makes_62 g14 ?_
            refine J_iconst (v := nI 1) dX15_makes_65 rfl ?_
            refine J_aload_n 0 dX15_makes_66 rv_is rfl ?_
            refine J_getR kc_15 50 (by decide) rfl rfl kw_7_20 dX15_makes_67 g14 ?_
            refine J_iload_n 2 dX15_makes_70 rfl ?_
            refine J_G (fun g15 => ?_)
            refine J_G (fun g16 => ?_)
            refine J_iald dX15_makes_71 g15 g16 ?_
            refine J_ishl dX15_makes_72 ?_
            refine J_ior dX15_makes_73 ?_
            refine J_putI kc_15 24 (by decide) rfl rfl rfl rfl (Or.inl rfl) kw_6_234 dX15_makes_74 g14 ?_
            refine J_LTh (fun h17 => ?_)
            refine J_goto (tgt := 97) dX15_makes_77 rfl ?_
            exact (jX15_makes_B97 x (X15_makes_B2 n) ih a0 i1 i2 h17)
        · refine J_aload_n 0 dX15_makes_30 rv_is rfl ?_
          refine J_dup dX15_makes_31 rv_cat ?_
          refine J_G (fun g18 => ?_)
          refine J_getI kc_15 23 (by decide) rfl rfl kw_6_233 dX15_makes_32 g18 ?_
          refine J_iconst (v := nI 1) dX15_makes_35 rfl ?_
          refine J_aload_n 0 dX15_makes_36 rv_is rfl ?_
          refine J_getR kc_15 50 (by decide) rfl rfl kw_7_20 dX15_makes_37 g18 ?_
          refine J_iload_n 2 dX15_makes_40 rfl ?_
          refine J_G (fun g19 => ?_)
          refine J_G (fun g20 => ?_)
          refine J_iald dX15_makes_41 g19 g20 ?_
          refine J_ishl dX15_makes_42 ?_
          refine J_ior dX15_makes_43 ?_
          refine J_putI kc_15 23 (by decide) rfl rfl rfl rfl (Or.inl rfl) kw_6_233 dX15_makes_44 g18 ?_
          refine J_LTh (fun h21 => ?_)
          refine J_goto (tgt := 97) dX15_makes_47 rfl ?_
          exact (jX15_makes_B97 x (X15_makes_B2 n) ih a0 i1 i2 h21)
      · refine J_goto (tgt := 97) dX15_makes_18 rfl ?_
        exact (jX15_makes_B97 x (X15_makes_B2 n) ih a0 i1 i2 h2)
def X15_makes_f (a0 : Nat) (i1 : Int32) (h : AH) : Option (Unit × AH) :=
  X15_makes_B2 FU a0 i1 (nI 0) h
theorem jX15_makes (x : CT) (a0 : Nat) (i1 : Int32) (h : AH) : J x qX15_makes ZV 0 [(0, rv (zx x) a0), (1, .int i1)] [] h (X15_makes_f a0 i1 h) := by
  unfold X15_makes_f
  refine J_iconst (v := nI 0) dX15_makes_0 rfl ?_
  refine J_istore_n dX15_makes_1 (by decide) (SD.a (lvr := [(0, rv (zx x) a0), (1, .int i1)]) [0, 1] rfl rfl) ?_
  exact J_sub [1, 2, 0] rfl (jX15_makes_B2 x FU a0 i1 (nI 0) h)
theorem ctX15_makes (l : Launch) (w : WT) (a0 : Nat) (i1 : Int32) (h : AH) : CM l w yX15_makes cX15_makes 3 none 1 21 KV [rv (w.1) a0, .int i1] h (X15_makes_f a0 i1 h) :=
  CM.of (by decide +kernel) (by simp [lg_sl, rv_cat, cat_I, cat_L, cat_S]) (lv := [(0, rv (w.1) a0), (1, .int i1)]) (by simp [lv_args, rv_cat, cat_I, cat_L, cat_S]) (fun x hx => by subst hx; exact jX15_makes x a0 i1 h)
