-- FallTrials$Book.wipe()V
abbrev qX0_wipe : MT := (cX0_wipe, RX0, "wipe", none, 0, 0, 1)
def X0_wipe_f (a0 : Nat) (h : AH) : Option (Unit × AH) :=
  G (xc h a0 = 0) <|
  LT (pI h a0 0 (nI 0)) fun h2 =>
  G (xc h2 a0 = 0) <|
  LT (pI h2 a0 1 (nI 0)) fun h4 =>
  G (xc h4 a0 = 0) <|
  LT (pI h4 a0 2 (nI 0)) fun h6 =>
  G (xc h6 a0 = 0) <|
  LT (pI h6 a0 3 (nI 0)) fun h8 =>
  G (xc h8 a0 = 0) <|
  LT (pI h8 a0 4 (nI 0)) fun h10 =>
  G (xc h10 a0 = 0) <|
  LT (pI h10 a0 5 (nI 0)) fun h12 =>
  G (xc h12 a0 = 0) <|
  LT (pI h12 a0 6 (nI 0)) fun h14 =>
  G (xc h14 a0 = 0) <|
  LT (pI h14 a0 14 (nI 0)) fun h16 =>
  G (xc h16 a0 = 0) <|
  LT (pI h16 a0 15 (nI 0)) fun h18 =>
  some ((), h18)
theorem jX0_wipe (x : CT) (a0 : Nat) (h : AH) : J x qX0_wipe ZV 0 [(0, rv (zx x) a0)] [] h (X0_wipe_f a0 h) := by
  unfold X0_wipe_f
  refine J_aload_n 0 dX0_wipe_0 rv_is rfl ?_
  refine J_iconst (v := nI 0) dX0_wipe_1 rfl ?_
  refine J_G (fun g1 => ?_)
  refine J_putI kc_0 0 (by decide) rfl rfl rfl rfl (Or.inl rfl) kw_1_103 dX0_wipe_2 g1 ?_
  refine J_LTh (fun h2 => ?_)
  refine J_aload_n 0 dX0_wipe_5 rv_is rfl ?_
  refine J_iconst (v := nI 0) dX0_wipe_6 rfl ?_
  refine J_G (fun g3 => ?_)
  refine J_putI kc_0 1 (by decide) rfl rfl rfl rfl (Or.inl rfl) kw_1_109 dX0_wipe_7 g3 ?_
  refine J_LTh (fun h4 => ?_)
  refine J_aload_n 0 dX0_wipe_10 rv_is rfl ?_
  refine J_iconst (v := nI 0) dX0_wipe_11 rfl ?_
  refine J_G (fun g5 => ?_)
  refine J_putI kc_0 2 (by decide) rfl rfl rfl rfl (Or.inl rfl) kw_1_115 dX0_wipe_12 g5 ?_
  refine J_LTh (fun h6 => ?_)
  refine J_aload_n 0 dX0_wipe_15 rv_is rfl ?_
  refine J_iconst (v := nI 0) dX0_wipe_16 rfl ?_
  refine J_G (fun g7 => ?_)
  refine J_putI kc_0 3 (by decide) rfl rfl rfl rfl (Or.inl rfl) kw_1_118 dX0_wipe_17 g7 ?_
  refine J_LTh (fun h8 => ?_)
  refine J_aload_n 0 dX0_wipe_20 rv_is rfl ?_
  refine J_iconst (v := nI 0) dX0_wipe_21 rfl ?_
  refine J_G (fun g9 => ?_)
  refine J_putI kc_0 4 (by decide) rfl rfl rfl rfl (Or.inl rfl) kw_1_124 dX0_wipe_22 g9 ?_
  refine J_LTh (fun h10 => ?_)
  refine J_aload_n 0 dX0_wipe_25 rv_is rfl ?_
  refine J_iconst (v := nI 0) dX0_wipe_26 rfl ?_
  refine J_G (fun g11 => ?_)
  refine J_putI kc_0 5 (by decide) rfl rfl rfl rfl (Or.inl rfl) kw_1_131 dX0_wipe_27 g11 ?_
  refine J_LTh (fun h12 => ?_)
  refine J_aload_n 0 dX0_wipe_30 rv_is rfl ?_
  refine J_iconst (v := nI 0) dX0_wipe_31 rfl ?_
  refine J_G (fun g13 => ?_)
  refine J_putI kc_0 6 (by decide) rfl rfl rfl rfl (Or.inl rfl) kw_1_135 dX0_wipe_32 g13 ?_
  refine J_LTh (fun h14 => ?_)
  refine J_aload_n 0 dX0_wipe_35 rv_is rfl ?_
  refine J_iconst (v := nI 0) dX0_wipe_36 rfl ?_
  refine J_G (fun g15 => ?_)
  refine J_putI kc_0 14 (by decide) rfl rfl rfl rfl (Or.inl rfl) kw_1_158 dX0_wipe_37 g15 ?_
  refine J_LTh (fun h16 => ?_)
  refine J_aload_n 0 dX0_wipe_40 rv_is rfl ?_
  refine J_iconst (v := nI 0) dX0_wipe_41 rfl ?_
  refine J_G (fun g17 => ?_)
  refine J_putI kc_0 15 (by decide) rfl rfl rfl rfl (Or.inl rfl) kw_1_161 dX0_wipe_42 g17 ?_
  refine J_LTh (fun h18 => ?_)
  exact J_vret dX0_wipe_45
theorem ctX0_wipe (l : Launch) (w : WT) (a0 : Nat) (h : AH) : CM l w yX0_wipe cX0_wipe 1 none 0 0 KV [rv (w.1) a0] h (X0_wipe_f a0 h) :=
  CM.of (by decide +kernel) (by simp [lg_sl, rv_cat, cat_I, cat_L, cat_S]) (lv := [(0, rv (w.1) a0)]) (by simp [lv_args, rv_cat, cat_I, cat_L, cat_S]) (fun x hx => by subst hx; exact jX0_wipe x a0 h)
-- FallTrials$Book.addFact(IIZ)V
abbrev qX0_addFact : MT := (cX0_addFact, RX0, "addFact", none, 0, 0, 4)
def X0_addFact_B52 (a0 : Nat) (i3 : Int32) (is0 : Int32) (is1 : Int32) (as2 : Nat) (h : AH) : Option (Unit × AH) :=
  G (xc h as2 = 16) <|
  G (gx is1 (xz h as2)) <|
  LT (pI h as2 is1.toNatClampNeg is0) fun h3 =>
  G (xc h3 a0 = 0) <|
  LT (pI h3 a0 2 ((xI h3 a0 2) + (nI 1))) fun h5 =>
  if i3 = 0 then (
    some ((), h5)
  ) else (
    G (xc h5 a0 = 0) <|
    LT (pI h5 a0 5 ((xI h5 a0 5) + (nI 1))) fun h7 =>
    some ((), h7)
  )
theorem jX0_addFact_B52 (x : CT) (a0 : Nat) (i3 : Int32) (is0 : Int32) (is1 : Int32) (as2 : Nat) (h : AH) : J x qX0_addFact ZV 52 [(0, rv (zx x) a0), (3, .int i3)] [.int is0, .int is1, rv (zx x) as2] h (X0_addFact_B52 a0 i3 is0 is1 as2 h) := by
  unfold X0_addFact_B52
  refine J_G (fun g1 => ?_)
  refine J_G (fun g2 => ?_)
  refine J_iast dX0_addFact_52 g1 g2 ?_
  refine J_LTh (fun h3 => ?_)
  refine J_aload_n 0 dX0_addFact_53 rv_is rfl ?_
  refine J_dup dX0_addFact_54 rv_cat ?_
  refine J_G (fun g4 => ?_)
  refine J_getI kc_0 2 (by decide) rfl rfl kw_1_115 dX0_addFact_55 g4 ?_
  refine J_iconst (v := nI 1) dX0_addFact_58 rfl ?_
  refine J_iadd dX0_addFact_59 ?_
  refine J_putI kc_0 2 (by decide) rfl rfl rfl rfl (Or.inl rfl) kw_1_115 dX0_addFact_60 g4 ?_
  refine J_LTh (fun h5 => ?_)
  refine J_iload_n 1 dX0_addFact_63 rfl ?_
  refine J_if_eq (tgt := 77) dX0_addFact_64 rfl ?_ ?_
  · exact J_vret dX0_addFact_77
  · refine J_aload_n 0 dX0_addFact_67 rv_is rfl ?_
    refine J_dup dX0_addFact_68 rv_cat ?_
    refine J_G (fun g6 => ?_)
    refine J_getI kc_0 5 (by decide) rfl rfl kw_1_131 dX0_addFact_69 g6 ?_
    refine J_iconst (v := nI 1) dX0_addFact_72 rfl ?_
    refine J_iadd dX0_addFact_73 ?_
    refine J_putI kc_0 5 (by decide) rfl rfl rfl rfl (Or.inl rfl) kw_1_131 dX0_addFact_74 g6 ?_
    refine J_LTh (fun h7 => ?_)
    exact J_vret dX0_addFact_77
def X0_addFact_f (a0 : Nat) (i1 : Int32) (i2 : Int32) (i3 : Int32) (h : AH) : Option (Unit × AH) :=
  G (xc h a0 = 0) <|
  if (xI h a0 2) = (nI 10) then (
    some ((), h)
  ) else (
    G (xc h a0 = 0) <|
    G (xc h (xR h a0 7) = 16) <|
    G (gx (xI h a0 2) (xz h (xR h a0 7))) <|
    LT (pI h (xR h a0 7) (xI h a0 2).toNatClampNeg i1) fun h5 =>
    G (xc h5 a0 = 0) <|
    G (xc h5 (xR h5 a0 8) = 16) <|
    G (gx (xI h5 a0 2) (xz h5 (xR h5 a0 8))) <|
    LT (pI h5 (xR h5 a0 8) (xI h5 a0 2).toNatClampNeg i2) fun h9 =>
    G (xc h9 a0 = 0) <|
    if i3 = 0 then (
      X0_addFact_B52 a0 i3 (nI 0) (xI h9 a0 2) (xR h9 a0 9) h9
    ) else (
      G (xc h9 a0 = 0) <|
      X0_addFact_B52 a0 i3 ((nI 1) <<< ((xI h9 a0 5) &&& 31)) (xI h9 a0 2) (xR h9 a0 9) h9
    )
  )
theorem jX0_addFact (x : CT) (a0 : Nat) (i1 : Int32) (i2 : Int32) (i3 : Int32) (h : AH) : J x qX0_addFact ZV 0 [(0, rv (zx x) a0), (1, .int i1), (2, .int i2), (3, .int i3)] [] h (X0_addFact_f a0 i1 i2 i3 h) := by
  unfold X0_addFact_f
  refine J_aload_n 0 dX0_addFact_0 rv_is rfl ?_
  refine J_G (fun g1 => ?_)
  refine J_getI kc_0 2 (by decide) rfl rfl kw_1_115 dX0_addFact_1 g1 ?_
  refine J_bipush (v := nI 10) dX0_addFact_4 rfl ?_
  refine J_icmp_ne (tgt := 10) dX0_addFact_6 rfl ?_ ?_
  · refine J_aload_n 0 dX0_addFact_10 rv_is rfl ?_
    refine J_G (fun g2 => ?_)
    refine J_getR kc_0 7 (by decide) rfl rfl kw_1_137 dX0_addFact_11 g2 ?_
    refine J_aload_n 0 dX0_addFact_14 rv_is rfl ?_
    refine J_getI kc_0 2 (by decide) rfl rfl kw_1_115 dX0_addFact_15 g2 ?_
    refine J_iload_n 1 dX0_addFact_18 rfl ?_
    refine J_G (fun g3 => ?_)
    refine J_G (fun g4 => ?_)
    refine J_iast dX0_addFact_19 g3 g4 ?_
    refine J_LTh (fun h5 => ?_)
    refine J_aload_n 0 dX0_addFact_20 rv_is rfl ?_
    refine J_G (fun g6 => ?_)
    refine J_getR kc_0 8 (by decide) rfl rfl kw_1_138 dX0_addFact_21 g6 ?_
    refine J_aload_n 0 dX0_addFact_24 rv_is rfl ?_
    refine J_getI kc_0 2 (by decide) rfl rfl kw_1_115 dX0_addFact_25 g6 ?_
    refine J_iload_n 2 dX0_addFact_28 rfl ?_
    refine J_G (fun g7 => ?_)
    refine J_G (fun g8 => ?_)
    refine J_iast dX0_addFact_29 g7 g8 ?_
    refine J_LTh (fun h9 => ?_)
    refine J_aload_n 0 dX0_addFact_30 rv_is rfl ?_
    refine J_G (fun g10 => ?_)
    refine J_getR kc_0 9 (by decide) rfl rfl kw_1_139 dX0_addFact_31 g10 ?_
    refine J_aload_n 0 dX0_addFact_34 rv_is rfl ?_
    refine J_getI kc_0 2 (by decide) rfl rfl kw_1_115 dX0_addFact_35 g10 ?_
    refine J_iload_n 3 dX0_addFact_38 rfl ?_
    refine J_if_eq (tgt := 51) dX0_addFact_39 rfl ?_ ?_
    · refine J_iconst (v := nI 0) dX0_addFact_51 rfl ?_
      exact J_sub [0, 3] rfl (jX0_addFact_B52 x a0 i3 (nI 0) (xI h9 a0 2) (xR h9 a0 9) h9)
    · refine J_iconst (v := nI 1) dX0_addFact_42 rfl ?_
      refine J_aload_n 0 dX0_addFact_43 rv_is rfl ?_
      refine J_G (fun g11 => ?_)
      refine J_getI kc_0 5 (by decide) rfl rfl kw_1_131 dX0_addFact_44 g11 ?_
      refine J_ishl dX0_addFact_47 ?_
      refine J_goto (tgt := 52) dX0_addFact_48 rfl ?_
      exact J_sub [0, 3] rfl (jX0_addFact_B52 x a0 i3 ((nI 1) <<< ((xI h9 a0 5) &&& 31)) (xI h9 a0 2) (xR h9 a0 9) h9)
  · exact J_vret dX0_addFact_9
theorem ctX0_addFact (l : Launch) (w : WT) (a0 : Nat) (i1 : Int32) (i2 : Int32) (i3 : Int32) (h : AH) : CM l w yX0_addFact cX0_addFact 4 none 0 0 KV [rv (w.1) a0, .int i1, .int i2, .int i3] h (X0_addFact_f a0 i1 i2 i3 h) :=
  CM.of (by decide +kernel) (by simp [lg_sl, rv_cat, cat_I, cat_L, cat_S]) (lv := [(0, rv (w.1) a0), (1, .int i1), (2, .int i2), (3, .int i3)]) (by simp [lv_args, rv_cat, cat_I, cat_L, cat_S]) (fun x hx => by subst hx; exact jX0_addFact x a0 i1 i2 i3 h)
-- FallTrials$Book.hitBy(I)I
abbrev qX0_hitBy : MT := (cX0_hitBy, RX0, "hitBy", (some .int), 0, 0, 2)
def X0_hitBy_B9 (a0 : Nat) (h : AH) : Option (Int32 × AH) :=
  G (xc h a0 = 0) <|
  some (xI h a0 4, h)
theorem jX0_hitBy_B9 (x : CT) (a0 : Nat) (h : AH) : J x qX0_hitBy ZI 9 [(0, rv (zx x) a0)] [] h (X0_hitBy_B9 a0 h) := by
  unfold X0_hitBy_B9
  refine J_aload_n 0 dX0_hitBy_9 rv_is rfl ?_
  refine J_G (fun g1 => ?_)
  refine J_getI kc_0 4 (by decide) rfl rfl kw_1_124 dX0_hitBy_10 g1 ?_
  refine J_goto (tgt := 20) dX0_hitBy_13 rfl ?_
  exact J_iret dX0_hitBy_20
def X0_hitBy_f (a0 : Nat) (i1 : Int32) (h : AH) : Option (Int32 × AH) :=
  if i1 = 0 then (
    X0_hitBy_B9 a0 h
  ) else (
    if i1 = (nI 3) then (
      X0_hitBy_B9 a0 h
    ) else (
      G (xc h a0 = 0) <|
      some (xI h a0 0, h)
    )
  )
theorem jX0_hitBy (x : CT) (a0 : Nat) (i1 : Int32) (h : AH) : J x qX0_hitBy ZI 0 [(0, rv (zx x) a0), (1, .int i1)] [] h (X0_hitBy_f a0 i1 h) := by
  unfold X0_hitBy_f
  refine J_iload_n 1 dX0_hitBy_0 rfl ?_
  refine J_if_eq (tgt := 9) dX0_hitBy_1 rfl ?_ ?_
  · exact J_sub [0] rfl (jX0_hitBy_B9 x a0 h)
  · refine J_iload_n 1 dX0_hitBy_4 rfl ?_
    refine J_iconst (v := nI 3) dX0_hitBy_5 rfl ?_
    refine J_icmp_ne (tgt := 16) dX0_hitBy_6 rfl ?_ ?_
    · refine J_aload_n 0 dX0_hitBy_16 rv_is rfl ?_
      refine J_G (fun g1 => ?_)
      refine J_getI kc_0 0 (by decide) rfl rfl kw_1_103 dX0_hitBy_17 g1 ?_
      exact J_iret dX0_hitBy_20
    · exact J_sub [0] rfl (jX0_hitBy_B9 x a0 h)
theorem ctX0_hitBy (l : Launch) (w : WT) (a0 : Nat) (i1 : Int32) (h : AH) : CM l w yX0_hitBy cX0_hitBy 2 (some .int) 0 0 KI [rv (w.1) a0, .int i1] h (X0_hitBy_f a0 i1 h) :=
  CM.of (by decide +kernel) (by simp [lg_sl, rv_cat, cat_I, cat_L, cat_S]) (lv := [(0, rv (w.1) a0), (1, .int i1)]) (by simp [lv_args, rv_cat, cat_I, cat_L, cat_S]) (fun x hx => by subst hx; exact jX0_hitBy x a0 i1 h)
-- FallTrials$Book.factsAt(II)I
abbrev qX0_factsAt : MT := (cX0_factsAt, RX0, "factsAt", (some .int), 0, 0, 5)
def X0_factsAt_B56 (k5 : (Nat → Int32 → Int32 → Int32 → Int32 → AH → Option (Int32 × AH))) (a0 : Nat) (i1 : Int32) (i2 : Int32) (i3 : Int32) (i4 : Int32) (h : AH) : Option (Int32 × AH) :=
  LT (i4 + nI 1) fun v1 =>
  k5 a0 i1 i2 i3 v1 h
theorem jX0_factsAt_B56 (x : CT) (k5 : (Nat → Int32 → Int32 → Int32 → Int32 → AH → Option (Int32 × AH))) (hk5 : ∀ (a0 : Nat) (i1 : Int32) (i2 : Int32) (i3 : Int32) (i4 : Int32) (h : AH), J x qX0_factsAt ZI 5 [(0, rv (zx x) a0), (1, .int i1), (2, .int i2), (3, .int i3), (4, .int i4)] [] h (k5 a0 i1 i2 i3 i4 h)) (a0 : Nat) (i1 : Int32) (i2 : Int32) (i3 : Int32) (i4 : Int32) (h : AH) : J x qX0_factsAt ZI 56 [(0, rv (zx x) a0), (1, .int i1), (2, .int i2), (3, .int i3), (4, .int i4)] [] h (X0_factsAt_B56 k5 a0 i1 i2 i3 i4 h) := by
  unfold X0_factsAt_B56
  refine J_iincL (u := i4 + nI 1) 4 dX0_factsAt_56 rfl rfl (by decide) (SD.a (lvr := [(0, rv (zx x) a0), (1, .int i1), (2, .int i2), (3, .int i3)]) [0, 1, 2, 3] rfl rfl) (fun v1 => ?_)
  refine J_goto (tgt := 5) dX0_factsAt_59 rfl ?_
  exact J_sub [1, 2, 3, 4, 0] rfl (hk5 a0 i1 i2 i3 v1 h)
def X0_factsAt_B5 : Nat → Nat → Int32 → Int32 → Int32 → Int32 → AH → Option (Int32 × AH)
  | 0, _, _, _, _, _, _ => none
  | n + 1, a0, i1, i2, i3, i4, h =>
    G (xc h a0 = 0) <|
    if (xI h a0 2) ≤ i4 then (
      some (i3, h)
    ) else (
      G (xc h a0 = 0) <|
      G (xc h (xR h a0 8) = 16) <|
      G (gx i4 (xz h (xR h a0 8))) <|
      if (xI h (xR h a0 8) i4.toNatClampNeg) = i1 then (
        G (xc h a0 = 0) <|
        G (xc h (xR h a0 9) = 16) <|
        G (gx i4 (xz h (xR h a0 9))) <|
        G (gx i4 (xz h (xR h a0 9))) <|
        if ((xI h (xR h a0 9) i4.toNatClampNeg) &&& i2) = (xI h (xR h a0 9) i4.toNatClampNeg) then (
          G (xc h a0 = 0) <|
          G (xc h (xR h a0 7) = 16) <|
          G (gx i4 (xz h (xR h a0 7))) <|
          LT (i3 ||| ((nI 1) <<< ((xI h (xR h a0 7) i4.toNatClampNeg) &&& 31))) fun v12 =>
          X0_factsAt_B56 (X0_factsAt_B5 n) a0 i1 i2 v12 i4 h
        ) else (
          X0_factsAt_B56 (X0_factsAt_B5 n) a0 i1 i2 i3 i4 h
        )
      ) else (
        X0_factsAt_B56 (X0_factsAt_B5 n) a0 i1 i2 i3 i4 h
      )
    )
theorem jX0_factsAt_B5 (x : CT) : ∀ (n : Nat) (a0 : Nat) (i1 : Int32) (i2 : Int32) (i3 : Int32) (i4 : Int32) (h : AH), J x qX0_factsAt ZI 5 [(0, rv (zx x) a0), (1, .int i1), (2, .int i2), (3, .int i3), (4, .int i4)] [] h (X0_factsAt_B5 n a0 i1 i2 i3 i4 h) := by
  intro n
  induction n with
  | zero => intro a0 i1 i2 i3 i4 h; exact J_none
  | succ n ih =>
    intro a0 i1 i2 i3 i4 h
    unfold X0_factsAt_B5
    refine J_iload 4 dX0_factsAt_5 rfl ?_
    refine J_aload_n 0 dX0_factsAt_7 rv_is rfl ?_
    refine J_G (fun g1 => ?_)
    refine J_getI kc_0 2 (by decide) rfl rfl kw_1_115 dX0_factsAt_8 g1 ?_
    refine J_icmp_ge (tgt := 62) dX0_factsAt_11 rfl ?_ ?_
    · refine J_iload_n 3 dX0_factsAt_62 rfl ?_
      exact J_iret dX0_factsAt_63
    · refine J_aload_n 0 dX0_factsAt_14 rv_is rfl ?_
      refine J_G (fun g2 => ?_)
      refine J_getR kc_0 8 (by decide) rfl rfl kw_1_138 dX0_factsAt_15 g2 ?_
      refine J_iload 4 dX0_factsAt_18 rfl ?_
      refine J_G (fun g3 => ?_)
      refine J_G (fun g4 => ?_)
      refine J_iald dX0_factsAt_20 g3 g4 ?_
      refine J_iload_n 1 dX0_factsAt_21 rfl ?_
      refine J_icmp_ne (tgt := 56) dX0_factsAt_22 rfl ?_ ?_
      · exact (jX0_factsAt_B56 x (X0_factsAt_B5 n) ih a0 i1 i2 i3 i4 h)
      · refine J_aload_n 0 dX0_factsAt_25 rv_is rfl ?_
        refine J_G (fun g5 => ?_)
        refine J_getR kc_0 9 (by decide) rfl rfl kw_1_139 dX0_factsAt_26 g5 ?_
        refine J_iload 4 dX0_factsAt_29 rfl ?_
        refine J_G (fun g6 => ?_)
        refine J_G (fun g7 => ?_)
        refine J_iald dX0_factsAt_31 g6 g7 ?_
        refine J_iload_n 2 dX0_factsAt_32 rfl ?_
        refine J_iand dX0_factsAt_33 ?_
        refine J_aload_n 0 dX0_factsAt_34 rv_is rfl ?_
        refine J_getR kc_0 9 (by decide) rfl rfl kw_1_139 dX0_factsAt_35 g5 ?_
        refine J_iload 4 dX0_factsAt_38 rfl ?_
        refine J_G (fun g8 => ?_)
        refine J_iald dX0_factsAt_40 g6 g8 ?_
        refine J_icmp_ne (tgt := 56) dX0_factsAt_41 rfl ?_ ?_
        · exact (jX0_factsAt_B56 x (X0_factsAt_B5 n) ih a0 i1 i2 i3 i4 h)
        · refine J_iload_n 3 dX0_factsAt_44 rfl ?_
          refine J_iconst (v := nI 1) dX0_factsAt_45 rfl ?_
          refine J_aload_n 0 dX0_factsAt_46 rv_is rfl ?_
          refine J_G (fun g9 => ?_)
          refine J_getR kc_0 7 (by decide) rfl rfl kw_1_137 dX0_factsAt_47 g9 ?_
          refine J_iload 4 dX0_factsAt_50 rfl ?_
          refine J_G (fun g10 => ?_)
          refine J_G (fun g11 => ?_)
          refine J_iald dX0_factsAt_52 g10 g11 ?_
          refine J_ishl dX0_factsAt_53 ?_
          refine J_ior dX0_factsAt_54 ?_
          refine J_LTi (fun v12 => ?_)
          refine J_istore_n dX0_factsAt_55 (by decide) (SD.a (lvr := [(0, rv (zx x) a0), (1, .int i1), (2, .int i2), (4, .int i4)]) [0, 1, 2, 4] rfl rfl) ?_
          exact J_sub [1, 2, 3, 0, 4] rfl (jX0_factsAt_B56 x (X0_factsAt_B5 n) ih a0 i1 i2 v12 i4 h)
def X0_factsAt_f (a0 : Nat) (i1 : Int32) (i2 : Int32) (h : AH) : Option (Int32 × AH) :=
  X0_factsAt_B5 FU a0 i1 i2 (nI 0) (nI 0) h
theorem jX0_factsAt (x : CT) (a0 : Nat) (i1 : Int32) (i2 : Int32) (h : AH) : J x qX0_factsAt ZI 0 [(0, rv (zx x) a0), (1, .int i1), (2, .int i2)] [] h (X0_factsAt_f a0 i1 i2 h) := by
  unfold X0_factsAt_f
  refine J_iconst (v := nI 0) dX0_factsAt_0 rfl ?_
  refine J_istore_n dX0_factsAt_1 (by decide) (SD.a (lvr := [(0, rv (zx x) a0), (1, .int i1), (2, .int i2)]) [0, 1, 2] rfl rfl) ?_
  refine J_iconst (v := nI 0) dX0_factsAt_2 rfl ?_
  refine J_istore dX0_factsAt_3 (by decide) (SD.a (lvr := [(3, .int (nI 0)), (0, rv (zx x) a0), (1, .int i1), (2, .int i2)]) [0, 1, 2, 3] rfl rfl) ?_
  exact J_sub [2, 3, 4, 1, 0] rfl (jX0_factsAt_B5 x FU a0 i1 i2 (nI 0) (nI 0) h)
theorem ctX0_factsAt (l : Launch) (w : WT) (a0 : Nat) (i1 : Int32) (i2 : Int32) (h : AH) : CM l w yX0_factsAt cX0_factsAt 5 (some .int) 0 0 KI [rv (w.1) a0, .int i1, .int i2] h (X0_factsAt_f a0 i1 i2 h) :=
  CM.of (by decide +kernel) (by simp [lg_sl, rv_cat, cat_I, cat_L, cat_S]) (lv := [(0, rv (w.1) a0), (1, .int i1), (2, .int i2)]) (by simp [lv_args, rv_cat, cat_I, cat_L, cat_S]) (fun x hx => by subst hx; exact jX0_factsAt x a0 i1 i2 h)
-- FallTrials$Clause.<init>()V
abbrev qX1_init : MT := (cX1_init, RX1, "<init>", none, 1, 20, 1)
def X1_init_f (a0 : Nat) (h : AH) : Option (Unit × AH) :=
  G (xc h a0 ≠ 99) <|
  LT (xn h) fun r4 =>
  LT (pN h 16 (nI 3).toNatClampNeg) fun h3 =>
  G (xc h3 a0 = 1) <|
  LT (pR h3 a0 0 r4) fun h6 =>
  LT (xn h6) fun r9 =>
  LT (pN h6 19 (nI 3).toNatClampNeg) fun h8 =>
  G (xc h8 a0 = 1) <|
  LT (pR h8 a0 1 r9) fun h11 =>
  some ((), h11)
theorem jX1_init (x : CT) (a0 : Nat) (h : AH) : J x qX1_init ZV 0 [(0, rv (zx x) a0)] [] h (X1_init_f a0 h) := by
  unfold X1_init_f
  refine J_aload_n 0 dX1_init_0 rv_is rfl ?_
  refine J_G (fun g1 => ?_)
  refine J_objInit kw_1_49 kw_1_35 kw_1_36 (by decide) dX1_init_1 g1 ?_
  refine J_aload_n 0 dX1_init_4 rv_is rfl ?_
  refine J_iconst (v := nI 3) dX1_init_5 rfl ?_
  refine J_newarr16 kw_1_101 dX1_init_6 (by decide) ?_
  refine J_LTr (fun r4 => ?_)
  refine J_LTh (fun h3 => ?_)
  refine J_G (fun g5 => ?_)
  refine J_putR kc_1 0 (by decide) rfl rfl (Or.inr ⟨_, rfl⟩) (Or.inr ⟨rfl, rfl, rfl⟩) kw_1_50 dX1_init_8 g5 ?_
  refine J_LTh (fun h6 => ?_)
  refine J_aload_n 0 dX1_init_11 rv_is rfl ?_
  refine J_iconst (v := nI 3) dX1_init_12 rfl ?_
  refine J_newarr19 kw_1_102 dX1_init_13 (by decide) ?_
  refine J_LTr (fun r9 => ?_)
  refine J_LTh (fun h8 => ?_)
  refine J_G (fun g10 => ?_)
  refine J_putR kc_1 1 (by decide) rfl rfl (Or.inr ⟨_, rfl⟩) (Or.inr ⟨rfl, rfl, rfl⟩) kw_1_53 dX1_init_15 g10 ?_
  refine J_LTh (fun h11 => ?_)
  exact J_vret dX1_init_18
theorem ctX1_init (l : Launch) (w : WT) (a0 : Nat) (h : AH) : CM l w yX1_init cX1_init 1 none 1 20 KV [rv (w.1) a0] h (X1_init_f a0 h) :=
  CM.of (by decide +kernel) (by simp [lg_sl, rv_cat, cat_I, cat_L, cat_S]) (lv := [(0, rv (w.1) a0)]) (by simp [lv_args, rv_cat, cat_I, cat_L, cat_S]) (fun x hx => by subst hx; exact jX1_init x a0 h)
-- FallTrials$Clause.wipe()V
abbrev qX1_wipe : MT := (cX1_wipe, RX1, "wipe", none, 0, 0, 1)
def X1_wipe_f (a0 : Nat) (h : AH) : Option (Unit × AH) :=
  G (xc h a0 = 1) <|
  LT (pI h a0 2 (nI 0)) fun h2 =>
  G (xc h2 a0 = 1) <|
  LT (pI h2 a0 3 (nI 0)) fun h4 =>
  G (xc h4 a0 = 1) <|
  LT (pI h4 a0 4 (nI 0)) fun h6 =>
  G (xc h6 a0 = 1) <|
  LT (pI h6 a0 5 (nI 0)) fun h8 =>
  G (xc h8 a0 = 1) <|
  LT (pI h8 a0 6 (-1)) fun h10 =>
  G (xc h10 a0 = 1) <|
  LT (pI h10 a0 7 (-1)) fun h12 =>
  G (xc h12 a0 = 1) <|
  LT (pI h12 a0 8 (nI 0)) fun h14 =>
  some ((), h14)
theorem jX1_wipe (x : CT) (a0 : Nat) (h : AH) : J x qX1_wipe ZV 0 [(0, rv (zx x) a0)] [] h (X1_wipe_f a0 h) := by
  unfold X1_wipe_f
  refine J_aload_n 0 dX1_wipe_0 rv_is rfl ?_
  refine J_iconst (v := nI 0) dX1_wipe_1 rfl ?_
  refine J_G (fun g1 => ?_)
  refine J_putI kc_1 2 (by decide) rfl rfl rfl rfl (Or.inl rfl) kw_1_56 dX1_wipe_2 g1 ?_
  refine J_LTh (fun h2 => ?_)
  refine J_aload_n 0 dX1_wipe_5 rv_is rfl ?_
  refine J_iconst (v := nI 0) dX1_wipe_6 rfl ?_
  refine J_G (fun g3 => ?_)
  refine J_putI kc_1 3 (by decide) rfl rfl rfl rfl (Or.inl rfl) kw_1_59 dX1_wipe_7 g3 ?_
  refine J_LTh (fun h4 => ?_)
  refine J_aload_n 0 dX1_wipe_10 rv_is rfl ?_
  refine J_iconst (v := nI 0) dX1_wipe_11 rfl ?_
  refine J_G (fun g5 => ?_)
  refine J_putI kc_1 4 (by decide) rfl rfl rfl rfl (Or.inl rfl) kw_1_64 dX1_wipe_12 g5 ?_
  refine J_LTh (fun h6 => ?_)
  refine J_aload_n 0 dX1_wipe_15 rv_is rfl ?_
  refine J_iconst (v := nI 0) dX1_wipe_16 rfl ?_
  refine J_G (fun g7 => ?_)
  refine J_putI kc_1 5 (by decide) rfl rfl rfl rfl (Or.inl rfl) kw_1_66 dX1_wipe_17 g7 ?_
  refine J_LTh (fun h8 => ?_)
  refine J_aload_n 0 dX1_wipe_20 rv_is rfl ?_
  refine J_iconst (v := (-1)) dX1_wipe_21 rfl ?_
  refine J_G (fun g9 => ?_)
  refine J_putI kc_1 6 (by decide) rfl rfl rfl rfl (Or.inl rfl) kw_1_67 dX1_wipe_22 g9 ?_
  refine J_LTh (fun h10 => ?_)
  refine J_aload_n 0 dX1_wipe_25 rv_is rfl ?_
  refine J_iconst (v := (-1)) dX1_wipe_26 rfl ?_
  refine J_G (fun g11 => ?_)
  refine J_putI kc_1 7 (by decide) rfl rfl rfl rfl (Or.inl rfl) kw_1_72 dX1_wipe_27 g11 ?_
  refine J_LTh (fun h12 => ?_)
  refine J_aload_n 0 dX1_wipe_30 rv_is rfl ?_
  refine J_iconst (v := nI 0) dX1_wipe_31 rfl ?_
  refine J_G (fun g13 => ?_)
  refine J_putI kc_1 8 (by decide) rfl rfl rfl rfl (Or.inl rfl) kw_1_77 dX1_wipe_32 g13 ?_
  refine J_LTh (fun h14 => ?_)
  exact J_vret dX1_wipe_35
theorem ctX1_wipe (l : Launch) (w : WT) (a0 : Nat) (h : AH) : CM l w yX1_wipe cX1_wipe 1 none 0 0 KV [rv (w.1) a0] h (X1_wipe_f a0 h) :=
  CM.of (by decide +kernel) (by simp [lg_sl, rv_cat, cat_I, cat_L, cat_S]) (lv := [(0, rv (w.1) a0)]) (by simp [lv_args, rv_cat, cat_I, cat_L, cat_S]) (fun x hx => by subst hx; exact jX1_wipe x a0 h)
-- FallTrials$Clause.addCase(IZ)V
abbrev qX1_addCase : MT := (cX1_addCase, RX1, "addCase", none, 0, 0, 3)
def X1_addCase_f (a0 : Nat) (i1 : Int32) (i2 : Int32) (h : AH) : Option (Unit × AH) :=
  G (xc h a0 = 1) <|
  if (xI h a0 2) = (nI 3) then (
    some ((), h)
  ) else (
    G (xc h a0 = 1) <|
    G (xc h (xR h a0 0) = 16) <|
    G (gx (xI h a0 2) (xz h (xR h a0 0))) <|
    LT (pI h (xR h a0 0) (xI h a0 2).toNatClampNeg i1) fun h5 =>
    G (xc h5 a0 = 1) <|
    G (xc h5 (xR h5 a0 1) = 19) <|
    G (gx (xI h5 a0 2) (xz h5 (xR h5 a0 1))) <|
    LT (pI h5 (xR h5 a0 1) (xI h5 a0 2).toNatClampNeg (vp_nar .boolean i2)) fun h9 =>
    G (xc h9 a0 = 1) <|
    LT (pI h9 a0 2 ((xI h9 a0 2) + (nI 1))) fun h11 =>
    if i2 = 0 then (
      G (xc h11 a0 = 1) <|
      LT (pI h11 a0 4 ((xI h11 a0 4) ||| ((nI 1) <<< (i1 &&& 31)))) fun h13 =>
      some ((), h13)
    ) else (
      G (xc h11 a0 = 1) <|
      LT (pI h11 a0 5 ((xI h11 a0 5) ||| ((nI 1) <<< (i1 &&& 31)))) fun h15 =>
      some ((), h15)
    )
  )
theorem jX1_addCase (x : CT) (a0 : Nat) (i1 : Int32) (i2 : Int32) (h : AH) : J x qX1_addCase ZV 0 [(0, rv (zx x) a0), (1, .int i1), (2, .int i2)] [] h (X1_addCase_f a0 i1 i2 h) := by
  unfold X1_addCase_f
  refine J_aload_n 0 dX1_addCase_0 rv_is rfl ?_
  refine J_G (fun g1 => ?_)
  refine J_getI kc_1 2 (by decide) rfl rfl kw_1_56 dX1_addCase_1 g1 ?_
  refine J_iconst (v := nI 3) dX1_addCase_4 rfl ?_
  refine J_icmp_ne (tgt := 9) dX1_addCase_5 rfl ?_ ?_
  · refine J_aload_n 0 dX1_addCase_9 rv_is rfl ?_
    refine J_G (fun g2 => ?_)
    refine J_getR kc_1 0 (by decide) rfl rfl kw_1_50 dX1_addCase_10 g2 ?_
    refine J_aload_n 0 dX1_addCase_13 rv_is rfl ?_
    refine J_getI kc_1 2 (by decide) rfl rfl kw_1_56 dX1_addCase_14 g2 ?_
    refine J_iload_n 1 dX1_addCase_17 rfl ?_
    refine J_G (fun g3 => ?_)
    refine J_G (fun g4 => ?_)
    refine J_iast dX1_addCase_18 g3 g4 ?_
    refine J_LTh (fun h5 => ?_)
    refine J_aload_n 0 dX1_addCase_19 rv_is rfl ?_
    refine J_G (fun g6 => ?_)
    refine J_getR kc_1 1 (by decide) rfl rfl kw_1_53 dX1_addCase_20 g6 ?_
    refine J_aload_n 0 dX1_addCase_23 rv_is rfl ?_
    refine J_getI kc_1 2 (by decide) rfl rfl kw_1_56 dX1_addCase_24 g6 ?_
    refine J_iload_n 2 dX1_addCase_27 rfl ?_
    refine J_G (fun g7 => ?_)
    refine J_G (fun g8 => ?_)
    refine J_zast dX1_addCase_28 g7 g8 ?_
    refine J_LTh (fun h9 => ?_)
    refine J_aload_n 0 dX1_addCase_29 rv_is rfl ?_
    refine J_dup dX1_addCase_30 rv_cat ?_
    refine J_G (fun g10 => ?_)
    refine J_getI kc_1 2 (by decide) rfl rfl kw_1_56 dX1_addCase_31 g10 ?_
    refine J_iconst (v := nI 1) dX1_addCase_34 rfl ?_
    refine J_iadd dX1_addCase_35 ?_
    refine J_putI kc_1 2 (by decide) rfl rfl rfl rfl (Or.inl rfl) kw_1_56 dX1_addCase_36 g10 ?_
    refine J_LTh (fun h11 => ?_)
    refine J_iload_n 2 dX1_addCase_39 rfl ?_
    refine J_if_eq (tgt := 58) dX1_addCase_40 rfl ?_ ?_
    · refine J_aload_n 0 dX1_addCase_58 rv_is rfl ?_
      refine J_dup dX1_addCase_59 rv_cat ?_
      refine J_G (fun g12 => ?_)
      refine J_getI kc_1 4 (by decide) rfl rfl kw_1_64 dX1_addCase_60 g12 ?_
      refine J_iconst (v := nI 1) dX1_addCase_63 rfl ?_
      refine J_iload_n 1 dX1_addCase_64 rfl ?_
      refine J_ishl dX1_addCase_65 ?_
      refine J_ior dX1_addCase_66 ?_
      refine J_putI kc_1 4 (by decide) rfl rfl rfl rfl (Or.inl rfl) kw_1_64 dX1_addCase_67 g12 ?_
      refine J_LTh (fun h13 => ?_)
      exact J_vret dX1_addCase_70
    · refine J_aload_n 0 dX1_addCase_43 rv_is rfl ?_
      refine J_dup dX1_addCase_44 rv_cat ?_
      refine J_G (fun g14 => ?_)
      refine J_getI kc_1 5 (by decide) rfl rfl kw_1_66 dX1_addCase_45 g14 ?_
      refine J_iconst (v := nI 1) dX1_addCase_48 rfl ?_
      refine J_iload_n 1 dX1_addCase_49 rfl ?_
      refine J_ishl dX1_addCase_50 ?_
      refine J_ior dX1_addCase_51 ?_
      refine J_putI kc_1 5 (by decide) rfl rfl rfl rfl (Or.inl rfl) kw_1_66 dX1_addCase_52 g14 ?_
      refine J_LTh (fun h15 => ?_)
      refine J_goto (tgt := 70) dX1_addCase_55 rfl ?_
      exact J_vret dX1_addCase_70
  · exact J_vret dX1_addCase_8
theorem ctX1_addCase (l : Launch) (w : WT) (a0 : Nat) (i1 : Int32) (i2 : Int32) (h : AH) : CM l w yX1_addCase cX1_addCase 3 none 0 0 KV [rv (w.1) a0, .int i1, .int i2] h (X1_addCase_f a0 i1 i2 h) :=
  CM.of (by decide +kernel) (by simp [lg_sl, rv_cat, cat_I, cat_L, cat_S]) (lv := [(0, rv (w.1) a0), (1, .int i1), (2, .int i2)]) (by simp [lv_args, rv_cat, cat_I, cat_L, cat_S]) (fun x hx => by subst hx; exact jX1_addCase x a0 i1 i2 h)
-- FallTrials$Clause.isFor(I)Z
abbrev qX1_isFor : MT := (cX1_isFor, RX1, "isFor", (some .boolean), 0, 0, 2)
def X1_isFor_B16 (h : AH) : Option (Int32 × AH) :=
  some (nI 1, h)
theorem jX1_isFor_B16 (x : CT) (h : AH) : J x qX1_isFor ZI 16 [] [] h (X1_isFor_B16 h) := by
  unfold X1_isFor_B16
  refine J_iconst (v := nI 1) dX1_isFor_16 rfl ?_
  refine J_goto (tgt := 21) dX1_isFor_17 rfl ?_
  exact J_zret dX1_isFor_21 (by decide)
def X1_isFor_f (a0 : Nat) (i1 : Int32) (h : AH) : Option (Int32 × AH) :=
  G (xc h a0 = 1) <|
  if (xI h a0 6) = (-1) then (
    X1_isFor_B16 h
  ) else (
    G (xc h a0 = 1) <|
    if (xI h a0 6) = i1 then (
      X1_isFor_B16 h
    ) else (
      some (nI 0, h)
    )
  )
theorem jX1_isFor (x : CT) (a0 : Nat) (i1 : Int32) (h : AH) : J x qX1_isFor ZI 0 [(0, rv (zx x) a0), (1, .int i1)] [] h (X1_isFor_f a0 i1 h) := by
  unfold X1_isFor_f
  refine J_aload_n 0 dX1_isFor_0 rv_is rfl ?_
  refine J_G (fun g1 => ?_)
  refine J_getI kc_1 6 (by decide) rfl rfl kw_1_67 dX1_isFor_1 g1 ?_
  refine J_iconst (v := (-1)) dX1_isFor_4 rfl ?_
  refine J_icmp_eq (tgt := 16) dX1_isFor_5 rfl ?_ ?_
  · exact J_sub [] rfl (jX1_isFor_B16 x h)
  · refine J_aload_n 0 dX1_isFor_8 rv_is rfl ?_
    refine J_G (fun g2 => ?_)
    refine J_getI kc_1 6 (by decide) rfl rfl kw_1_67 dX1_isFor_9 g2 ?_
    refine J_iload_n 1 dX1_isFor_12 rfl ?_
    refine J_icmp_ne (tgt := 20) dX1_isFor_13 rfl ?_ ?_
    · refine J_iconst (v := nI 0) dX1_isFor_20 rfl ?_
      exact J_zret dX1_isFor_21 (by decide)
    · exact J_sub [] rfl (jX1_isFor_B16 x h)
theorem ctX1_isFor (l : Launch) (w : WT) (a0 : Nat) (i1 : Int32) (h : AH) : CM l w yX1_isFor cX1_isFor 2 (some .boolean) 0 0 KI [rv (w.1) a0, .int i1] h (X1_isFor_f a0 i1 h) :=
  CM.of (by decide +kernel) (by simp [lg_sl, rv_cat, cat_I, cat_L, cat_S]) (lv := [(0, rv (w.1) a0), (1, .int i1)]) (by simp [lv_args, rv_cat, cat_I, cat_L, cat_S]) (fun x hx => by subst hx; exact jX1_isFor x a0 i1 h)
-- FallTrials$Clause.holdsAmong(IZ)Z
abbrev qX1_holdsAmong : MT := (cX1_holdsAmong, RX1, "holdsAmong", (some .boolean), 0, 0, 3)
def X1_holdsAmong_B26 (h : AH) : Option (Int32 × AH) :=
  some (nI 1, h)
theorem jX1_holdsAmong_B26 (x : CT) (h : AH) : J x qX1_holdsAmong ZI 26 [] [] h (X1_holdsAmong_B26 h) := by
  unfold X1_holdsAmong_B26
  refine J_iconst (v := nI 1) dX1_holdsAmong_26 rfl ?_
  refine J_goto (tgt := 31) dX1_holdsAmong_27 rfl ?_
  exact J_zret dX1_holdsAmong_31 (by decide)
def X1_holdsAmong_f (a0 : Nat) (i1 : Int32) (i2 : Int32) (h : AH) : Option (Int32 × AH) :=
  G (xc h a0 = 1) <|
  if (i1 &&& (xI h a0 4)) = (xI h a0 4) then (
    if i2 = 0 then (
      G (xc h a0 = 1) <|
      if (i1 &&& (xI h a0 5)) = 0 then (
        X1_holdsAmong_B26 h
      ) else (
        some (nI 0, h)
      )
    ) else (
      X1_holdsAmong_B26 h
    )
  ) else (
    some (nI 0, h)
  )
theorem jX1_holdsAmong (x : CT) (a0 : Nat) (i1 : Int32) (i2 : Int32) (h : AH) : J x qX1_holdsAmong ZI 0 [(0, rv (zx x) a0), (1, .int i1), (2, .int i2)] [] h (X1_holdsAmong_f a0 i1 i2 h) := by
  unfold X1_holdsAmong_f
  refine J_iload_n 1 dX1_holdsAmong_0 rfl ?_
  refine J_aload_n 0 dX1_holdsAmong_1 rv_is rfl ?_
  refine J_G (fun g1 => ?_)
  refine J_getI kc_1 4 (by decide) rfl rfl kw_1_64 dX1_holdsAmong_2 g1 ?_
  refine J_iand dX1_holdsAmong_5 ?_
  refine J_aload_n 0 dX1_holdsAmong_6 rv_is rfl ?_
  refine J_getI kc_1 4 (by decide) rfl rfl kw_1_64 dX1_holdsAmong_7 g1 ?_
  refine J_icmp_ne (tgt := 30) dX1_holdsAmong_10 rfl ?_ ?_
  · refine J_iconst (v := nI 0) dX1_holdsAmong_30 rfl ?_
    exact J_zret dX1_holdsAmong_31 (by decide)
  · refine J_iload_n 2 dX1_holdsAmong_13 rfl ?_
    refine J_if_ne (tgt := 26) dX1_holdsAmong_14 rfl ?_ ?_
    · exact J_sub [] rfl (jX1_holdsAmong_B26 x h)
    · refine J_iload_n 1 dX1_holdsAmong_17 rfl ?_
      refine J_aload_n 0 dX1_holdsAmong_18 rv_is rfl ?_
      refine J_G (fun g2 => ?_)
      refine J_getI kc_1 5 (by decide) rfl rfl kw_1_66 dX1_holdsAmong_19 g2 ?_
      refine J_iand dX1_holdsAmong_22 ?_
      refine J_if_ne (tgt := 30) dX1_holdsAmong_23 rfl ?_ ?_
      · refine J_iconst (v := nI 0) dX1_holdsAmong_30 rfl ?_
        exact J_zret dX1_holdsAmong_31 (by decide)
      · exact J_sub [] rfl (jX1_holdsAmong_B26 x h)
theorem ctX1_holdsAmong (l : Launch) (w : WT) (a0 : Nat) (i1 : Int32) (i2 : Int32) (h : AH) : CM l w yX1_holdsAmong cX1_holdsAmong 3 (some .boolean) 0 0 KI [rv (w.1) a0, .int i1, .int i2] h (X1_holdsAmong_f a0 i1 i2 h) :=
  CM.of (by decide +kernel) (by simp [lg_sl, rv_cat, cat_I, cat_L, cat_S]) (lv := [(0, rv (w.1) a0), (1, .int i1), (2, .int i2)]) (by simp [lv_args, rv_cat, cat_I, cat_L, cat_S]) (fun x hx => by subst hx; exact jX1_holdsAmong x a0 i1 i2 h)
-- FallTrials$Course.<init>(LFallTrials$Works;LFallTrials$FallLanes;)V
abbrev qX2_init : MT := (cX2_init, RX2, "<init>", none, 1, 20, 3)
def X2_init_f (a0 : Nat) (a1 : Nat) (a2 : Nat) (h : AH) : Option (Unit × AH) :=
  G (xc h a0 ≠ 99) <|
  LT (xn h) fun r4 =>
  LT (pN h 17 (nI 280).toNatClampNeg) fun h3 =>
  G (xc h3 a0 = 2) <|
  LT (pR h3 a0 0 r4) fun h6 =>
  LT (xn h6) fun r9 =>
  LT (pN h6 17 (nI 280).toNatClampNeg) fun h8 =>
  G (xc h8 a0 = 2) <|
  LT (pR h8 a0 1 r9) fun h11 =>
  LT (xn h11) fun r14 =>
  LT (pN h11 17 (nI 40).toNatClampNeg) fun h13 =>
  G (xc h13 a0 = 2) <|
  LT (pR h13 a0 2 r14) fun h16 =>
  LT (xn h16) fun r19 =>
  LT (pN h16 17 (nI 6).toNatClampNeg) fun h18 =>
  G (xc h18 a0 = 2) <|
  LT (pR h18 a0 3 r19) fun h21 =>
  LT (xn h21) fun r24 =>
  LT (pN h21 17 (nI 42).toNatClampNeg) fun h23 =>
  G (xc h23 a0 = 2) <|
  LT (pR h23 a0 4 r24) fun h26 =>
  G (xc h26 a0 = 2) <|
  LT (pR h26 a0 7 a1) fun h28 =>
  G (xc h28 a1 = 10) <|
  G (xc h28 a0 = 2) <|
  LT (pR h28 a0 8 (xR h28 a1 0)) fun h31 =>
  G (xc h31 a0 = 2) <|
  LT (pR h31 a0 9 a2) fun h33 =>
  some ((), h33)
theorem jX2_init (x : CT) (a0 : Nat) (a1 : Nat) (a2 : Nat) (h : AH) : J x qX2_init ZV 0 [(0, rv (zx x) a0), (1, rv (zx x) a1), (2, rv (zx x) a2)] [] h (X2_init_f a0 a1 a2 h) := by
  unfold X2_init_f
  refine J_aload_n 0 dX2_init_0 rv_is rfl ?_
  refine J_G (fun g1 => ?_)
  refine J_objInit kw_2_173 kw_1_35 kw_1_36 (by decide) dX2_init_1 g1 ?_
  refine J_aload_n 0 dX2_init_4 rv_is rfl ?_
  refine J_sipush (v := nI 280) dX2_init_5 rfl ?_
  refine J_newarr17 kw_2_3 dX2_init_8 (by decide) ?_
  refine J_LTr (fun r4 => ?_)
  refine J_LTh (fun h3 => ?_)
  refine J_G (fun g5 => ?_)
  refine J_putR kc_2 0 (by decide) rfl rfl (Or.inr ⟨_, rfl⟩) (Or.inr ⟨rfl, rfl, rfl⟩) kw_2_174 dX2_init_10 g5 ?_
  refine J_LTh (fun h6 => ?_)
  refine J_aload_n 0 dX2_init_13 rv_is rfl ?_
  refine J_sipush (v := nI 280) dX2_init_14 rfl ?_
  refine J_newarr17 kw_2_3 dX2_init_17 (by decide) ?_
  refine J_LTr (fun r9 => ?_)
  refine J_LTh (fun h8 => ?_)
  refine J_G (fun g10 => ?_)
  refine J_putR kc_2 1 (by decide) rfl rfl (Or.inr ⟨_, rfl⟩) (Or.inr ⟨rfl, rfl, rfl⟩) kw_2_176 dX2_init_19 g10 ?_
  refine J_LTh (fun h11 => ?_)
  refine J_aload_n 0 dX2_init_22 rv_is rfl ?_
  refine J_bipush (v := nI 40) dX2_init_23 rfl ?_
  refine J_newarr17 kw_2_3 dX2_init_25 (by decide) ?_
  refine J_LTr (fun r14 => ?_)
  refine J_LTh (fun h13 => ?_)
  refine J_G (fun g15 => ?_)
  refine J_putR kc_2 2 (by decide) rfl rfl (Or.inr ⟨_, rfl⟩) (Or.inr ⟨rfl, rfl, rfl⟩) kw_2_177 dX2_init_27 g15 ?_
  refine J_LTh (fun h16 => ?_)
  refine J_aload_n 0 dX2_init_30 rv_is rfl ?_
  refine J_bipush (v := nI 6) dX2_init_31 rfl ?_
  refine J_newarr17 kw_2_3 dX2_init_33 (by decide) ?_
  refine J_LTr (fun r19 => ?_)
  refine J_LTh (fun h18 => ?_)
  refine J_G (fun g20 => ?_)
  refine J_putR kc_2 3 (by decide) rfl rfl (Or.inr ⟨_, rfl⟩) (Or.inr ⟨rfl, rfl, rfl⟩) kw_2_178 dX2_init_35 g20 ?_
  refine J_LTh (fun h21 => ?_)
  refine J_aload_n 0 dX2_init_38 rv_is rfl ?_
  refine J_bipush (v := nI 42) dX2_init_39 rfl ?_
  refine J_newarr17 kw_2_3 dX2_init_41 (by decide) ?_
  refine J_LTr (fun r24 => ?_)
  refine J_LTh (fun h23 => ?_)
  refine J_G (fun g25 => ?_)
  refine J_putR kc_2 4 (by decide) rfl rfl (Or.inr ⟨_, rfl⟩) (Or.inr ⟨rfl, rfl, rfl⟩) kw_2_179 dX2_init_43 g25 ?_
  refine J_LTh (fun h26 => ?_)
  refine J_aload_n 0 dX2_init_46 rv_is rfl ?_
  refine J_aload_n 1 dX2_init_47 rv_is rfl ?_
  refine J_G (fun g27 => ?_)
  refine J_putR kc_2 7 (by decide) rfl rfl (Or.inl ⟨_, rfl⟩) (Or.inl rfl) kw_2_186 dX2_init_48 g27 ?_
  refine J_LTh (fun h28 => ?_)
  refine J_aload_n 0 dX2_init_51 rv_is rfl ?_
  refine J_aload_n 1 dX2_init_52 rv_is rfl ?_
  refine J_G (fun g29 => ?_)
  refine J_getR kc_10 0 (by decide) rfl rfl kw_2_12 dX2_init_53 g29 ?_
  refine J_G (fun g30 => ?_)
  refine J_putR kc_2 8 (by decide) rfl rfl (Or.inl ⟨_, rfl⟩) (Or.inl rfl) kw_2_187 dX2_init_56 g30 ?_
  refine J_LTh (fun h31 => ?_)
  refine J_aload_n 0 dX2_init_59 rv_is rfl ?_
  refine J_aload_n 2 dX2_init_60 rv_is rfl ?_
  refine J_G (fun g32 => ?_)
  refine J_putR kc_2 9 (by decide) rfl rfl (Or.inl ⟨_, rfl⟩) (Or.inl rfl) kw_2_188 dX2_init_61 g32 ?_
  refine J_LTh (fun h33 => ?_)
  exact J_vret dX2_init_64
theorem ctX2_init (l : Launch) (w : WT) (a0 : Nat) (a1 : Nat) (a2 : Nat) (h : AH) : CM l w yX2_init cX2_init 3 none 1 20 KV [rv (w.1) a0, rv (w.1) a1, rv (w.1) a2] h (X2_init_f a0 a1 a2 h) :=
  CM.of (by decide +kernel) (by simp [lg_sl, rv_cat, cat_I, cat_L, cat_S]) (lv := [(0, rv (w.1) a0), (1, rv (w.1) a1), (2, rv (w.1) a2)]) (by simp [lv_args, rv_cat, cat_I, cat_L, cat_S]) (fun x hx => by subst hx; exact jX2_init x a0 a1 a2 h)
-- FallTrials$Course.held(LFallTrials$Clause;IIZ)J
abbrev qX2_held : MT := (cX2_held, RX2, "held", (some .long), 0, 0, 11)
def X2_held_B95 (k33 : (Nat → Nat → Int32 → Int32 → Int64 → Int32 → AH → Option (Int64 × AH))) (a0 : Nat) (a1 : Nat) (i4 : Int32) (i5 : Int32) (l6 : Int64) (i8 : Int32) (h : AH) : Option (Int64 × AH) :=
  LT (i8 + nI 1) fun v1 =>
  k33 a0 a1 i4 i5 l6 v1 h
theorem jX2_held_B95 (x : CT) (k33 : (Nat → Nat → Int32 → Int32 → Int64 → Int32 → AH → Option (Int64 × AH))) (hk33 : ∀ (a0 : Nat) (a1 : Nat) (i4 : Int32) (i5 : Int32) (l6 : Int64) (i8 : Int32) (h : AH), J x qX2_held ZL 33 [(0, rv (zx x) a0), (1, rv (zx x) a1), (4, .int i4), (5, .int i5), (6, .long l6), (8, .int i8)] [] h (k33 a0 a1 i4 i5 l6 i8 h)) (a0 : Nat) (a1 : Nat) (i4 : Int32) (i5 : Int32) (l6 : Int64) (i8 : Int32) (h : AH) : J x qX2_held ZL 95 [(0, rv (zx x) a0), (1, rv (zx x) a1), (4, .int i4), (5, .int i5), (6, .long l6), (8, .int i8)] [] h (X2_held_B95 k33 a0 a1 i4 i5 l6 i8 h) := by
  unfold X2_held_B95
  refine J_iincL (u := i8 + nI 1) 5 dX2_held_95 rfl rfl (by decide) (SD.a (lvr := [(0, rv (zx x) a0), (1, rv (zx x) a1), (4, .int i4), (5, .int i5), (6, .long l6)]) [0, 1, 2, 3, 4] rfl rfl) (fun v1 => ?_)
  refine J_goto (tgt := 33) dX2_held_98 rfl ?_
  exact J_sub [1, 2, 3, 4, 5, 0] rfl (hk33 a0 a1 i4 i5 l6 v1 h)
def X2_held_B33 : Nat → Nat → Nat → Int32 → Int32 → Int64 → Int32 → AH → Option (Int64 × AH)
  | 0, _, _, _, _, _, _, _ => none
  | n + 1, a0, a1, i4, i5, l6, i8, h =>
    G (xc h a1 = 1) <|
    if (xI h a1 2) ≤ i8 then (
      some (l6, h)
    ) else (
      G (xc h a0 = 2) <|
      G (xc h a1 = 1) <|
      G (xc h (xR h a1 0) = 16) <|
      G (gx i8 (xz h (xR h a1 0))) <|
      G (xc h (xR h a0 0) = 17) <|
      G (gx (i5 + (xI h (xR h a1 0) i8.toNatClampNeg)) (xz h (xR h a0 0))) <|
      LT (xL h (xR h a0 0) (i5 + (xI h (xR h a1 0) i8.toNatClampNeg)).toNatClampNeg) fun w8 =>
      G (xc h (xR h a1 1) = 19) <|
      G (gx i8 (xz h (xR h a1 1))) <|
      if (xI h (xR h a1 1) i8.toNatClampNeg) = 0 then (
        LT (l6 &&& w8) fun w12 =>
        X2_held_B95 (X2_held_B33 n) a0 a1 i4 i5 w12 i8 h
      ) else (
        if i4 = 0 then (
          LT (l6 &&& (w8 ^^^ (-1))) fun w11 =>
          X2_held_B95 (X2_held_B33 n) a0 a1 i4 i5 w11 i8 h
        ) else (
          X2_held_B95 (X2_held_B33 n) a0 a1 i4 i5 l6 i8 h
        )
      )
    )
theorem jX2_held_B33 (x : CT) : ∀ (n : Nat) (a0 : Nat) (a1 : Nat) (i4 : Int32) (i5 : Int32) (l6 : Int64) (i8 : Int32) (h : AH), J x qX2_held ZL 33 [(0, rv (zx x) a0), (1, rv (zx x) a1), (4, .int i4), (5, .int i5), (6, .long l6), (8, .int i8)] [] h (X2_held_B33 n a0 a1 i4 i5 l6 i8 h) := by
  intro n
  induction n with
  | zero => intro a0 a1 i4 i5 l6 i8 h; exact J_none
  | succ n ih =>
    intro a0 a1 i4 i5 l6 i8 h
    unfold X2_held_B33
    refine J_iload 5 dX2_held_33 rfl ?_
    refine J_aload_n 1 dX2_held_35 rv_is rfl ?_
    refine J_G (fun g1 => ?_)
    refine J_getI kc_1 2 (by decide) rfl rfl kw_1_57 dX2_held_36 g1 ?_
    refine J_icmp_ge (tgt := 101) dX2_held_39 rfl ?_ ?_
    · refine J_lload 4 dX2_held_101 rfl ?_
      exact J_lret dX2_held_103
    · refine J_aload_n 0 dX2_held_42 rv_is rfl ?_
      refine J_G (fun g2 => ?_)
      refine J_getR kc_2 0 (by decide) rfl rfl kw_2_174 dX2_held_43 g2 ?_
      refine J_iload 3 dX2_held_46 rfl ?_
      refine J_aload_n 1 dX2_held_48 rv_is rfl ?_
      refine J_G (fun g3 => ?_)
      refine J_getR kc_1 0 (by decide) rfl rfl kw_1_51 dX2_held_49 g3 ?_
      refine J_iload 5 dX2_held_52 rfl ?_
      refine J_G (fun g4 => ?_)
      refine J_G (fun g5 => ?_)
      refine J_iald dX2_held_54 g4 g5 ?_
      refine J_iadd dX2_held_55 ?_
      refine J_G (fun g6 => ?_)
      refine J_G (fun g7 => ?_)
      refine J_lald dX2_held_56 g6 g7 ?_
      refine J_LTl (fun w8 => ?_)
      refine J_lstore dX2_held_57 (by decide) (SD.a (lvr := [(0, rv (zx x) a0), (1, rv (zx x) a1), (4, .int i4), (5, .int i5), (6, .long l6), (8, .int i8)]) [0, 1, 2, 3, 4, 5] rfl rfl) rfl ?_
      refine J_aload_n 2 dX2_held_59 rv_is rfl ?_
      refine J_getR kc_1 1 (by decide) rfl rfl kw_1_54 dX2_held_60 g3 ?_
      refine J_iload 6 dX2_held_63 rfl ?_
      refine J_G (fun g9 => ?_)
      refine J_G (fun g10 => ?_)
      refine J_zald dX2_held_65 g9 g10 ?_
      refine J_if_ne (tgt := 79) dX2_held_66 rfl ?_ ?_
      · refine J_iload 3 dX2_held_79 rfl ?_
        refine J_if_ne (tgt := 95) dX2_held_81 rfl ?_ ?_
        · exact J_sub [1, 2, 3, 4, 5, 6] rfl (jX2_held_B95 x (X2_held_B33 n) ih a0 a1 i4 i5 l6 i8 h)
        · refine J_lload 5 dX2_held_84 rfl ?_
          refine J_lload 0 dX2_held_86 rfl ?_
          refine J_ldc2 (v := (-1)) dX2_held_88 kw_4_146 ?_
          refine J_lxor dX2_held_91 ?_
          refine J_land dX2_held_92 ?_
          refine J_LTl (fun w11 => ?_)
          refine J_lstore dX2_held_93 (by decide) (SD.a (lvr := [(0, rv (zx x) a0), (1, rv (zx x) a1), (4, .int i4), (5, .int i5), (8, .int i8)]) [1, 2, 3, 4, 6] rfl rfl) rfl ?_
          exact J_sub [1, 2, 3, 4, 0, 5] rfl (jX2_held_B95 x (X2_held_B33 n) ih a0 a1 i4 i5 w11 i8 h)
      · refine J_lload 5 dX2_held_69 rfl ?_
        refine J_lload 0 dX2_held_71 rfl ?_
        refine J_land dX2_held_73 ?_
        refine J_LTl (fun w12 => ?_)
        refine J_lstore dX2_held_74 (by decide) (SD.a (lvr := [(0, rv (zx x) a0), (1, rv (zx x) a1), (4, .int i4), (5, .int i5), (8, .int i8)]) [1, 2, 3, 4, 6] rfl rfl) rfl ?_
        refine J_goto (tgt := 95) dX2_held_76 rfl ?_
        exact J_sub [1, 2, 3, 4, 0, 5] rfl (jX2_held_B95 x (X2_held_B33 n) ih a0 a1 i4 i5 w12 i8 h)
def X2_held_f (a0 : Nat) (a1 : Nat) (i2 : Int32) (i3 : Int32) (i4 : Int32) (h : AH) : Option (Int64 × AH) :=
  LT (((i3 * (nI 4)) + i2) * (nI 10)) fun v1 =>
  G (xc h a0 = 2) <|
  G (xc h (xR h a0 9) = 3) <|
  G (xc h (xR h (xR h a0 9) 2) = 17) <|
  G (gx ((i2 * (nI 7)) + i3) (xz h (xR h (xR h a0 9) 2))) <|
  LT ((xL h (xR h (xR h a0 9) 2) ((i2 * (nI 7)) + i3).toNatClampNeg) ^^^ (-1)) fun w6 =>
  X2_held_B33 FU a0 a1 i4 v1 w6 (nI 0) h
theorem jX2_held (x : CT) (a0 : Nat) (a1 : Nat) (i2 : Int32) (i3 : Int32) (i4 : Int32) (h : AH) : J x qX2_held ZL 0 [(0, rv (zx x) a0), (1, rv (zx x) a1), (2, .int i2), (3, .int i3), (4, .int i4)] [] h (X2_held_f a0 a1 i2 i3 i4 h) := by
  unfold X2_held_f
  refine J_iload_n 3 dX2_held_0 rfl ?_
  refine J_iconst (v := nI 4) dX2_held_1 rfl ?_
  refine J_imul dX2_held_2 ?_
  refine J_iload_n 2 dX2_held_3 rfl ?_
  refine J_iadd dX2_held_4 ?_
  refine J_bipush (v := nI 10) dX2_held_5 rfl ?_
  refine J_imul dX2_held_7 ?_
  refine J_LTi (fun v1 => ?_)
  refine J_istore dX2_held_8 (by decide) (SD.a (lvr := [(0, rv (zx x) a0), (1, rv (zx x) a1), (2, .int i2), (3, .int i3), (4, .int i4)]) [0, 1, 2, 3, 4] rfl rfl) ?_
  refine J_aload_n 1 dX2_held_10 rv_is rfl ?_
  refine J_G (fun g2 => ?_)
  refine J_getR kc_2 9 (by decide) rfl rfl kw_2_188 dX2_held_11 g2 ?_
  refine J_G (fun g3 => ?_)
  refine J_getR kc_3 2 (by decide) rfl rfl kw_2_121 dX2_held_14 g3 ?_
  refine J_iload_n 3 dX2_held_17 rfl ?_
  refine J_bipush (v := nI 7) dX2_held_18 rfl ?_
  refine J_imul dX2_held_20 ?_
  refine J_iload_n 4 dX2_held_21 rfl ?_
  refine J_iadd dX2_held_22 ?_
  refine J_G (fun g4 => ?_)
  refine J_G (fun g5 => ?_)
  refine J_lald dX2_held_23 g4 g5 ?_
  refine J_ldc2 (v := (-1)) dX2_held_24 kw_4_146 ?_
  refine J_lxor dX2_held_27 ?_
  refine J_LTl (fun w6 => ?_)
  refine J_lstore dX2_held_28 (by decide) (SD.a (lvr := [(5, .int v1), (0, rv (zx x) a0), (1, rv (zx x) a1), (4, .int i4)]) [0, 1, 2, 5] rfl rfl) rfl ?_
  refine J_iconst (v := nI 0) dX2_held_30 rfl ?_
  refine J_istore dX2_held_31 (by decide) (SD.a (lvr := [(6, .long w6), (5, .int v1), (0, rv (zx x) a0), (1, rv (zx x) a1), (4, .int i4)]) [0, 1, 2, 3, 4] rfl rfl) ?_
  exact J_sub [3, 4, 5, 2, 1, 0] rfl (jX2_held_B33 x FU a0 a1 i4 v1 w6 (nI 0) h)
theorem ctX2_held (l : Launch) (w : WT) (a0 : Nat) (a1 : Nat) (i2 : Int32) (i3 : Int32) (i4 : Int32) (h : AH) : CM l w yX2_held cX2_held 11 (some .long) 0 0 KL [rv (w.1) a0, rv (w.1) a1, .int i2, .int i3, .int i4] h (X2_held_f a0 a1 i2 i3 i4 h) :=
  CM.of (by decide +kernel) (by simp [lg_sl, rv_cat, cat_I, cat_L, cat_S]) (lv := [(0, rv (w.1) a0), (1, rv (w.1) a1), (2, .int i2), (3, .int i3), (4, .int i4)]) (by simp [lv_args, rv_cat, cat_I, cat_L, cat_S]) (fun x hx => by subst hx; exact jX2_held x a0 a1 i2 i3 i4 h)
-- FallTrials$FallLanes.<init>()V
abbrev qX3_init : MT := (cX3_init, RX3, "<init>", none, 1, 20, 1)
def X3_init_f (a0 : Nat) (h : AH) : Option (Unit × AH) :=
  G (xc h a0 ≠ 99) <|
  LT (xn h) fun r4 =>
  LT (pN h 17 (nI 42).toNatClampNeg) fun h3 =>
  G (xc h3 a0 = 3) <|
  LT (pR h3 a0 0 r4) fun h6 =>
  LT (xn h6) fun r9 =>
  LT (pN h6 17 (nI 42).toNatClampNeg) fun h8 =>
  G (xc h8 a0 = 3) <|
  LT (pR h8 a0 1 r9) fun h11 =>
  LT (xn h11) fun r14 =>
  LT (pN h11 17 (nI 28).toNatClampNeg) fun h13 =>
  G (xc h13 a0 = 3) <|
  LT (pR h13 a0 2 r14) fun h16 =>
  some ((), h16)
theorem jX3_init (x : CT) (a0 : Nat) (h : AH) : J x qX3_init ZV 0 [(0, rv (zx x) a0)] [] h (X3_init_f a0 h) := by
  unfold X3_init_f
  refine J_aload_n 0 dX3_init_0 rv_is rfl ?_
  refine J_G (fun g1 => ?_)
  refine J_objInit kw_2_110 kw_1_35 kw_1_36 (by decide) dX3_init_1 g1 ?_
  refine J_aload_n 0 dX3_init_4 rv_is rfl ?_
  refine J_bipush (v := nI 42) dX3_init_5 rfl ?_
  refine J_newarr17 kw_2_3 dX3_init_7 (by decide) ?_
  refine J_LTr (fun r4 => ?_)
  refine J_LTh (fun h3 => ?_)
  refine J_G (fun g5 => ?_)
  refine J_putR kc_3 0 (by decide) rfl rfl (Or.inr ⟨_, rfl⟩) (Or.inr ⟨rfl, rfl, rfl⟩) kw_2_111 dX3_init_9 g5 ?_
  refine J_LTh (fun h6 => ?_)
  refine J_aload_n 0 dX3_init_12 rv_is rfl ?_
  refine J_bipush (v := nI 42) dX3_init_13 rfl ?_
  refine J_newarr17 kw_2_3 dX3_init_15 (by decide) ?_
  refine J_LTr (fun r9 => ?_)
  refine J_LTh (fun h8 => ?_)
  refine J_G (fun g10 => ?_)
  refine J_putR kc_3 1 (by decide) rfl rfl (Or.inr ⟨_, rfl⟩) (Or.inr ⟨rfl, rfl, rfl⟩) kw_2_115 dX3_init_17 g10 ?_
  refine J_LTh (fun h11 => ?_)
  refine J_aload_n 0 dX3_init_20 rv_is rfl ?_
  refine J_bipush (v := nI 28) dX3_init_21 rfl ?_
  refine J_newarr17 kw_2_3 dX3_init_23 (by decide) ?_
  refine J_LTr (fun r14 => ?_)
  refine J_LTh (fun h13 => ?_)
  refine J_G (fun g15 => ?_)
  refine J_putR kc_3 2 (by decide) rfl rfl (Or.inr ⟨_, rfl⟩) (Or.inr ⟨rfl, rfl, rfl⟩) kw_2_119 dX3_init_25 g15 ?_
  refine J_LTh (fun h16 => ?_)
  exact J_vret dX3_init_28
theorem ctX3_init (l : Launch) (w : WT) (a0 : Nat) (h : AH) : CM l w yX3_init cX3_init 1 none 1 20 KV [rv (w.1) a0] h (X3_init_f a0 h) :=
  CM.of (by decide +kernel) (by simp [lg_sl, rv_cat, cat_I, cat_L, cat_S]) (lv := [(0, rv (w.1) a0)]) (by simp [lv_args, rv_cat, cat_I, cat_L, cat_S]) (fun x hx => by subst hx; exact jX3_init x a0 h)
-- FallTrials$FallLanes.putDown(IIIJ)V
abbrev qX3_putDown : MT := (cX3_putDown, RX3, "putDown", none, 0, 0, 7)
def X3_putDown_B3 : Nat → Nat → Int32 → Int32 → Int64 → Int32 → AH → Option (Unit × AH)
  | 0, _, _, _, _, _, _ => none
  | n + 1, a0, i1, i3, l4, i6, h =>
    if i3 < i6 then (
      some ((), h)
    ) else (
      if (nI 7) ≤ i6 then (
        some ((), h)
      ) else (
        G (xc h a0 = 3) <|
        G (xc h (xR h a0 2) = 17) <|
        G (gx ((i1 * (nI 7)) + i6) (xz h (xR h a0 2))) <|
        G (gx ((i1 * (nI 7)) + i6) (xz h (xR h a0 2))) <|
        LT (pL h (xR h a0 2) ((i1 * (nI 7)) + i6).toNatClampNeg ((xL h (xR h a0 2) ((i1 * (nI 7)) + i6).toNatClampNeg) ||| l4)) fun h5 =>
        LT (i6 + nI 1) fun v6 =>
        X3_putDown_B3 n a0 i1 i3 l4 v6 h5
      )
    )
theorem jX3_putDown_B3 (x : CT) : ∀ (n : Nat) (a0 : Nat) (i1 : Int32) (i3 : Int32) (l4 : Int64) (i6 : Int32) (h : AH), J x qX3_putDown ZV 3 [(0, rv (zx x) a0), (1, .int i1), (3, .int i3), (4, .long l4), (6, .int i6)] [] h (X3_putDown_B3 n a0 i1 i3 l4 i6 h) := by
  intro n
  induction n with
  | zero => intro a0 i1 i3 l4 i6 h; exact J_none
  | succ n ih =>
    intro a0 i1 i3 l4 i6 h
    unfold X3_putDown_B3
    refine J_iload 4 dX3_putDown_3 rfl ?_
    refine J_iload_n 2 dX3_putDown_5 rfl ?_
    refine J_icmp_gt (tgt := 39) dX3_putDown_6 rfl ?_ ?_
    · exact J_vret dX3_putDown_39
    · refine J_iload 4 dX3_putDown_9 rfl ?_
      refine J_bipush (v := nI 7) dX3_putDown_11 rfl ?_
      refine J_icmp_ge (tgt := 39) dX3_putDown_13 rfl ?_ ?_
      · exact J_vret dX3_putDown_39
      · refine J_aload_n 0 dX3_putDown_16 rv_is rfl ?_
        refine J_G (fun g1 => ?_)
        refine J_getR kc_3 2 (by decide) rfl rfl kw_2_119 dX3_putDown_17 g1 ?_
        refine J_iload_n 1 dX3_putDown_20 rfl ?_
        refine J_bipush (v := nI 7) dX3_putDown_21 rfl ?_
        refine J_imul dX3_putDown_23 ?_
        refine J_iload 4 dX3_putDown_24 rfl ?_
        refine J_iadd dX3_putDown_26 ?_
        refine J_dup2 dX3_putDown_27 rfl rv_cat ?_
        refine J_G (fun g2 => ?_)
        refine J_G (fun g3 => ?_)
        refine J_lald dX3_putDown_28 g2 g3 ?_
        refine J_lload 3 dX3_putDown_29 rfl ?_
        refine J_lor dX3_putDown_31 ?_
        refine J_G (fun g4 => ?_)
        refine J_last dX3_putDown_32 g2 g4 ?_
        refine J_LTh (fun h5 => ?_)
        refine J_iincL (u := i6 + nI 1) 4 dX3_putDown_33 rfl rfl (by decide) (SD.a (lvr := [(0, rv (zx x) a0), (1, .int i1), (3, .int i3), (4, .long l4)]) [0, 1, 2, 3] rfl rfl) (fun v6 => ?_)
        refine J_goto (tgt := 3) dX3_putDown_36 rfl ?_
        exact J_sub [1, 2, 3, 4, 0] rfl (ih a0 i1 i3 l4 v6 h5)
def X3_putDown_f (a0 : Nat) (i1 : Int32) (i2 : Int32) (i3 : Int32) (l4 : Int64) (h : AH) : Option (Unit × AH) :=
  X3_putDown_B3 FU a0 i1 i3 l4 i2 h
theorem jX3_putDown (x : CT) (a0 : Nat) (i1 : Int32) (i2 : Int32) (i3 : Int32) (l4 : Int64) (h : AH) : J x qX3_putDown ZV 0 [(0, rv (zx x) a0), (1, .int i1), (2, .int i2), (3, .int i3), (4, .long l4)] [] h (X3_putDown_f a0 i1 i2 i3 l4 h) := by
  unfold X3_putDown_f
  refine J_iload_n 2 dX3_putDown_0 rfl ?_
  refine J_istore dX3_putDown_1 (by decide) (SD.a (lvr := [(0, rv (zx x) a0), (1, .int i1), (3, .int i3), (4, .long l4)]) [0, 1, 3, 4] rfl rfl) ?_
  exact J_sub [1, 2, 3, 4, 0] rfl (jX3_putDown_B3 x FU a0 i1 i3 l4 i2 h)
theorem ctX3_putDown (l : Launch) (w : WT) (a0 : Nat) (i1 : Int32) (i2 : Int32) (i3 : Int32) (l4 : Int64) (h : AH) : CM l w yX3_putDown cX3_putDown 7 none 0 0 KV [rv (w.1) a0, .int i1, .int i2, .int i3, .long l4] h (X3_putDown_f a0 i1 i2 i3 l4 h) :=
  CM.of (by decide +kernel) (by simp [lg_sl, rv_cat, cat_I, cat_L, cat_S]) (lv := [(0, rv (w.1) a0), (1, .int i1), (2, .int i2), (3, .int i3), (4, .long l4)]) (by simp [lv_args, rv_cat, cat_I, cat_L, cat_S]) (fun x hx => by subst hx; exact jX3_putDown x a0 i1 i2 i3 l4 h)
-- FallTrials$Numbers.<init>(I)V
abbrev qX4_init : MT := (cX4_init, RX4, "<init>", none, 1, 20, 2)
def X4_init_B14 (is0 : Int32) (as1 : Nat) (h : AH) : Option (Unit × AH) :=
  G (¬ is0 < 0 ∧ is0.toNatClampNeg ≤ 100000) <|
  LT (xn h) fun r3 =>
  LT (pN h 16 is0.toNatClampNeg) fun h2 =>
  G (xc h2 as1 = 4) <|
  LT (pR h2 as1 0 r3) fun h5 =>
  some ((), h5)
theorem jX4_init_B14 (x : CT) (is0 : Int32) (as1 : Nat) (h : AH) : J x qX4_init ZV 14 [] [.int is0, rv (zx x) as1] h (X4_init_B14 is0 as1 h) := by
  unfold X4_init_B14
  refine J_G (fun g1 => ?_)
  refine J_newarr16 kw_1_101 dX4_init_14 g1 ?_
  refine J_LTr (fun r3 => ?_)
  refine J_LTh (fun h2 => ?_)
  refine J_G (fun g4 => ?_)
  refine J_putR kc_4 0 (by decide) rfl rfl (Or.inr ⟨_, rfl⟩) (Or.inr ⟨rfl, rfl, rfl⟩) kw_2_54 dX4_init_16 g4 ?_
  refine J_LTh (fun h5 => ?_)
  exact J_vret dX4_init_19
def X4_init_f (a0 : Nat) (i1 : Int32) (h : AH) : Option (Unit × AH) :=
  G (xc h a0 ≠ 99) <|
  if 0 ≤ i1 then (
    X4_init_B14 i1 a0 h
  ) else (
    X4_init_B14 (nI 0) a0 h
  )
theorem jX4_init (x : CT) (a0 : Nat) (i1 : Int32) (h : AH) : J x qX4_init ZV 0 [(0, rv (zx x) a0), (1, .int i1)] [] h (X4_init_f a0 i1 h) := by
  unfold X4_init_f
  refine J_aload_n 0 dX4_init_0 rv_is rfl ?_
  refine J_G (fun g1 => ?_)
  refine J_objInit kw_2_53 kw_1_35 kw_1_36 (by decide) dX4_init_1 g1 ?_
  refine J_aload_n 0 dX4_init_4 rv_is rfl ?_
  refine J_iload_n 1 dX4_init_5 rfl ?_
  refine J_if_ge (tgt := 13) dX4_init_6 rfl ?_ ?_
  · refine J_iload_n 1 dX4_init_13 rfl ?_
    exact J_sub [] rfl (jX4_init_B14 x i1 a0 h)
  · refine J_iconst (v := nI 0) dX4_init_9 rfl ?_
    refine J_goto (tgt := 14) dX4_init_10 rfl ?_
    exact J_sub [] rfl (jX4_init_B14 x (nI 0) a0 h)
theorem ctX4_init (l : Launch) (w : WT) (a0 : Nat) (i1 : Int32) (h : AH) : CM l w yX4_init cX4_init 2 none 1 20 KV [rv (w.1) a0, .int i1] h (X4_init_f a0 i1 h) :=
  CM.of (by decide +kernel) (by simp [lg_sl, rv_cat, cat_I, cat_L, cat_S]) (lv := [(0, rv (w.1) a0), (1, .int i1)]) (by simp [lv_args, rv_cat, cat_I, cat_L, cat_S]) (fun x hx => by subst hx; exact jX4_init x a0 i1 h)
-- FallTrials$Numbers.wipe()V
abbrev qX4_wipe : MT := (cX4_wipe, RX4, "wipe", none, 0, 0, 1)
def X4_wipe_f (a0 : Nat) (h : AH) : Option (Unit × AH) :=
  G (xc h a0 = 4) <|
  LT (pI h a0 1 (nI 0)) fun h2 =>
  some ((), h2)
theorem jX4_wipe (x : CT) (a0 : Nat) (h : AH) : J x qX4_wipe ZV 0 [(0, rv (zx x) a0)] [] h (X4_wipe_f a0 h) := by
  unfold X4_wipe_f
  refine J_aload_n 0 dX4_wipe_0 rv_is rfl ?_
  refine J_iconst (v := nI 0) dX4_wipe_1 rfl ?_
  refine J_G (fun g1 => ?_)
  refine J_putI kc_4 1 (by decide) rfl rfl rfl rfl (Or.inl rfl) kw_2_56 dX4_wipe_2 g1 ?_
  refine J_LTh (fun h2 => ?_)
  exact J_vret dX4_wipe_5
theorem ctX4_wipe (l : Launch) (w : WT) (a0 : Nat) (h : AH) : CM l w yX4_wipe cX4_wipe 1 none 0 0 KV [rv (w.1) a0] h (X4_wipe_f a0 h) :=
  CM.of (by decide +kernel) (by simp [lg_sl, rv_cat, cat_I, cat_L, cat_S]) (lv := [(0, rv (w.1) a0)]) (by simp [lv_args, rv_cat, cat_I, cat_L, cat_S]) (fun x hx => by subst hx; exact jX4_wipe x a0 h)
-- FallTrials$Numbers.has(I)Z
abbrev qX4_has : MT := (cX4_has, RX4, "has", (some .boolean), 0, 0, 3)
def X4_has_B2 : Nat → Nat → Int32 → Int32 → AH → Option (Int32 × AH)
  | 0, _, _, _, _ => none
  | n + 1, a0, i1, i2, h =>
    G (xc h a0 = 4) <|
    if (xI h a0 1) ≤ i2 then (
      some (nI 0, h)
    ) else (
      G (xc h a0 = 4) <|
      G (xc h (xR h a0 0) = 16) <|
      G (gx i2 (xz h (xR h a0 0))) <|
      if (xI h (xR h a0 0) i2.toNatClampNeg) = i1 then (
        some (nI 1, h)
      ) else (
        LT (i2 + nI 1) fun v5 =>
        X4_has_B2 n a0 i1 v5 h
      )
    )
theorem jX4_has_B2 (x : CT) : ∀ (n : Nat) (a0 : Nat) (i1 : Int32) (i2 : Int32) (h : AH), J x qX4_has ZI 2 [(0, rv (zx x) a0), (1, .int i1), (2, .int i2)] [] h (X4_has_B2 n a0 i1 i2 h) := by
  intro n
  induction n with
  | zero => intro a0 i1 i2 h; exact J_none
  | succ n ih =>
    intro a0 i1 i2 h
    unfold X4_has_B2
    refine J_iload_n 2 dX4_has_2 rfl ?_
    refine J_aload_n 0 dX4_has_3 rv_is rfl ?_
    refine J_G (fun g1 => ?_)
    refine J_getI kc_4 1 (by decide) rfl rfl kw_2_56 dX4_has_4 g1 ?_
    refine J_icmp_ge (tgt := 28) dX4_has_7 rfl ?_ ?_
    · refine J_iconst (v := nI 0) dX4_has_28 rfl ?_
      exact J_zret dX4_has_29 (by decide)
    · refine J_aload_n 0 dX4_has_10 rv_is rfl ?_
      refine J_G (fun g2 => ?_)
      refine J_getR kc_4 0 (by decide) rfl rfl kw_2_54 dX4_has_11 g2 ?_
      refine J_iload_n 2 dX4_has_14 rfl ?_
      refine J_G (fun g3 => ?_)
      refine J_G (fun g4 => ?_)
      refine J_iald dX4_has_15 g3 g4 ?_
      refine J_iload_n 1 dX4_has_16 rfl ?_
      refine J_icmp_ne (tgt := 22) dX4_has_17 rfl ?_ ?_
      · refine J_iincL (u := i2 + nI 1) 2 dX4_has_22 rfl rfl (by decide) (SD.a (lvr := [(0, rv (zx x) a0), (1, .int i1)]) [0, 1] rfl rfl) (fun v5 => ?_)
        refine J_goto (tgt := 2) dX4_has_25 rfl ?_
        exact J_sub [1, 2, 0] rfl (ih a0 i1 v5 h)
      · refine J_iconst (v := nI 1) dX4_has_20 rfl ?_
        exact J_zret dX4_has_21 (by decide)
def X4_has_f (a0 : Nat) (i1 : Int32) (h : AH) : Option (Int32 × AH) :=
  X4_has_B2 FU a0 i1 (nI 0) h
theorem jX4_has (x : CT) (a0 : Nat) (i1 : Int32) (h : AH) : J x qX4_has ZI 0 [(0, rv (zx x) a0), (1, .int i1)] [] h (X4_has_f a0 i1 h) := by
  unfold X4_has_f
  refine J_iconst (v := nI 0) dX4_has_0 rfl ?_
  refine J_istore_n dX4_has_1 (by decide) (SD.a (lvr := [(0, rv (zx x) a0), (1, .int i1)]) [0, 1] rfl rfl) ?_
  exact J_sub [1, 2, 0] rfl (jX4_has_B2 x FU a0 i1 (nI 0) h)
theorem ctX4_has (l : Launch) (w : WT) (a0 : Nat) (i1 : Int32) (h : AH) : CM l w yX4_has cX4_has 3 (some .boolean) 0 0 KI [rv (w.1) a0, .int i1] h (X4_has_f a0 i1 h) :=
  CM.of (by decide +kernel) (by simp [lg_sl, rv_cat, cat_I, cat_L, cat_S]) (lv := [(0, rv (w.1) a0), (1, .int i1)]) (by simp [lv_args, rv_cat, cat_I, cat_L, cat_S]) (fun x hx => by subst hx; exact jX4_has x a0 i1 h)
