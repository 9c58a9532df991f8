-- FallTrials$Numbers.insert(I)V
abbrev qX4_insert : MT := (cX4_insert, RX4, "insert", none, 0, 0, 3)
def X4_insert_B54 (a0 : Nat) (i1 : Int32) (i2 : Int32) (h : AH) : Option (Unit × AH) :=
  G (xc h a0 = 4) <|
  G (xc h (xR h a0 0) = 16) <|
  G (gx i2 (xz h (xR h a0 0))) <|
  LT (pI h (xR h a0 0) i2.toNatClampNeg i1) fun h4 =>
  G (xc h4 a0 = 4) <|
  LT (pI h4 a0 1 ((xI h4 a0 1) + (nI 1))) fun h6 =>
  some ((), h6)
theorem jX4_insert_B54 (x : CT) (a0 : Nat) (i1 : Int32) (i2 : Int32) (h : AH) : J x qX4_insert ZV 54 [(0, rv (zx x) a0), (1, .int i1), (2, .int i2)] [] h (X4_insert_B54 a0 i1 i2 h) := by
  unfold X4_insert_B54
  refine J_aload_n 0 dX4_insert_54 rv_is rfl ?_
  refine J_G (fun g1 => ?_)
  refine J_getR kc_4 0 (by decide) rfl rfl kw_2_54 dX4_insert_55 g1 ?_
  refine J_iload_n 2 dX4_insert_58 rfl ?_
  refine J_iload_n 1 dX4_insert_59 rfl ?_
  refine J_G (fun g2 => ?_)
  refine J_G (fun g3 => ?_)
  refine J_iast dX4_insert_60 g2 g3 ?_
  refine J_LTh (fun h4 => ?_)
  refine J_aload_n 0 dX4_insert_61 rv_is rfl ?_
  refine J_dup dX4_insert_62 rv_cat ?_
  refine J_G (fun g5 => ?_)
  refine J_getI kc_4 1 (by decide) rfl rfl kw_2_56 dX4_insert_63 g5 ?_
  refine J_iconst (v := nI 1) dX4_insert_66 rfl ?_
  refine J_iadd dX4_insert_67 ?_
  refine J_putI kc_4 1 (by decide) rfl rfl rfl rfl (Or.inl rfl) kw_2_56 dX4_insert_68 g5 ?_
  refine J_LTh (fun h6 => ?_)
  exact J_vret dX4_insert_71
def X4_insert_B18 : Nat → Nat → Int32 → Int32 → AH → Option (Unit × AH)
  | 0, _, _, _, _ => none
  | n + 1, a0, i1, i2, h =>
    if i2 ≤ 0 then (
      X4_insert_B54 a0 i1 i2 h
    ) else (
      G (xc h a0 = 4) <|
      G (xc h (xR h a0 0) = 16) <|
      G (gx (i2 - (nI 1)) (xz h (xR h a0 0))) <|
      if (xI h (xR h a0 0) (i2 - (nI 1)).toNatClampNeg) ≤ i1 then (
        X4_insert_B54 a0 i1 i2 h
      ) else (
        G (xc h a0 = 4) <|
        G (xc h (xR h a0 0) = 16) <|
        G (gx (i2 - (nI 1)) (xz h (xR h a0 0))) <|
        G (gx i2 (xz h (xR h a0 0))) <|
        LT (pI h (xR h a0 0) i2.toNatClampNeg (xI h (xR h a0 0) (i2 - (nI 1)).toNatClampNeg)) fun h8 =>
        LT (i2 + (-1)) fun v9 =>
        X4_insert_B18 n a0 i1 v9 h8
      )
    )
theorem jX4_insert_B18 (x : CT) : ∀ (n : Nat) (a0 : Nat) (i1 : Int32) (i2 : Int32) (h : AH), J x qX4_insert ZV 18 [(0, rv (zx x) a0), (1, .int i1), (2, .int i2)] [] h (X4_insert_B18 n a0 i1 i2 h) := by
  intro n
  induction n with
  | zero => intro a0 i1 i2 h; exact J_none
  | succ n ih =>
    intro a0 i1 i2 h
    unfold X4_insert_B18
    refine J_iload_n 2 dX4_insert_18 rfl ?_
    refine J_if_le (tgt := 54) dX4_insert_19 rfl ?_ ?_
    · exact (jX4_insert_B54 x a0 i1 i2 h)
    · refine J_aload_n 0 dX4_insert_22 rv_is rfl ?_
      refine J_G (fun g1 => ?_)
      refine J_getR kc_4 0 (by decide) rfl rfl kw_2_54 dX4_insert_23 g1 ?_
      refine J_iload_n 2 dX4_insert_26 rfl ?_
      refine J_iconst (v := nI 1) dX4_insert_27 rfl ?_
      refine J_isub dX4_insert_28 ?_
      refine J_G (fun g2 => ?_)
      refine J_G (fun g3 => ?_)
      refine J_iald dX4_insert_29 g2 g3 ?_
      refine J_iload_n 1 dX4_insert_30 rfl ?_
      refine J_icmp_le (tgt := 54) dX4_insert_31 rfl ?_ ?_
      · exact (jX4_insert_B54 x a0 i1 i2 h)
      · refine J_aload_n 0 dX4_insert_34 rv_is rfl ?_
        refine J_G (fun g4 => ?_)
        refine J_getR kc_4 0 (by decide) rfl rfl kw_2_54 dX4_insert_35 g4 ?_
        refine J_iload_n 2 dX4_insert_38 rfl ?_
        refine J_aload_n 0 dX4_insert_39 rv_is rfl ?_
        refine J_getR kc_4 0 (by decide) rfl rfl kw_2_54 dX4_insert_40 g4 ?_
        refine J_iload_n 2 dX4_insert_43 rfl ?_
        refine J_iconst (v := nI 1) dX4_insert_44 rfl ?_
        refine J_isub dX4_insert_45 ?_
        refine J_G (fun g5 => ?_)
        refine J_G (fun g6 => ?_)
        refine J_iald dX4_insert_46 g5 g6 ?_
        refine J_G (fun g7 => ?_)
        refine J_iast dX4_insert_47 g5 g7 ?_
        refine J_LTh (fun h8 => ?_)
        refine J_iincL (u := i2 + (-1)) 2 dX4_insert_48 rfl rfl (by decide) (SD.a (lvr := [(0, rv (zx x) a0), (1, .int i1)]) [0, 1] rfl rfl) (fun v9 => ?_)
        refine J_goto (tgt := 18) dX4_insert_51 rfl ?_
        exact J_sub [1, 2, 0] rfl (ih a0 i1 v9 h8)
def X4_insert_f (a0 : Nat) (i1 : Int32) (h : AH) : Option (Unit × AH) :=
  G (xc h a0 = 4) <|
  G (xc h (xR h a0 0) = 16) <|
  if (xI h a0 1) = (nI (xz h (xR h a0 0))) then (
    some ((), h)
  ) else (
    G (xc h a0 = 4) <|
    LT (xI h a0 1) fun v4 =>
    X4_insert_B18 FU a0 i1 v4 h
  )
theorem jX4_insert (x : CT) (a0 : Nat) (i1 : Int32) (h : AH) : J x qX4_insert ZV 0 [(0, rv (zx x) a0), (1, .int i1)] [] h (X4_insert_f a0 i1 h) := by
  unfold X4_insert_f
  refine J_aload_n 0 dX4_insert_0 rv_is rfl ?_
  refine J_G (fun g1 => ?_)
  refine J_getI kc_4 1 (by decide) rfl rfl kw_2_56 dX4_insert_1 g1 ?_
  refine J_aload_n 0 dX4_insert_4 rv_is rfl ?_
  refine J_getR kc_4 0 (by decide) rfl rfl kw_2_54 dX4_insert_5 g1 ?_
  refine J_G (fun g2 => ?_)
  refine J_alen16 dX4_insert_8 g2 ?_
  refine J_icmp_ne (tgt := 13) dX4_insert_9 rfl ?_ ?_
  · refine J_aload_n 0 dX4_insert_13 rv_is rfl ?_
    refine J_G (fun g3 => ?_)
    refine J_getI kc_4 1 (by decide) rfl rfl kw_2_56 dX4_insert_14 g3 ?_
    refine J_LTi (fun v4 => ?_)
    refine J_istore_n dX4_insert_17 (by decide) (SD.a (lvr := [(0, rv (zx x) a0), (1, .int i1)]) [0, 1] rfl rfl) ?_
    exact J_sub [1, 2, 0] rfl (jX4_insert_B18 x FU a0 i1 v4 h)
  · exact J_vret dX4_insert_12
theorem ctX4_insert (l : Launch) (w : WT) (a0 : Nat) (i1 : Int32) (h : AH) : CM l w yX4_insert cX4_insert 3 none 0 0 KV [rv (w.1) a0, .int i1] h (X4_insert_f a0 i1 h) :=
  CM.of (by decide +kernel) (by simp [lg_sl, rv_cat, cat_I, cat_L, cat_S]) (lv := [(0, rv (w.1) a0), (1, .int i1)]) (by simp [lv_args, rv_cat, cat_I, cat_L, cat_S]) (fun x hx => by subst hx; exact jX4_insert x a0 i1 h)
-- FallTrials$Numbers.append(I)V
abbrev qX4_append : MT := (cX4_append, RX4, "append", none, 0, 0, 2)
def X4_append_f (a0 : Nat) (i1 : Int32) (h : AH) : Option (Unit × AH) :=
  G (xc h a0 = 4) <|
  G (xc h (xR h a0 0) = 16) <|
  if (nI (xz h (xR h a0 0))) ≤ (xI h a0 1) then (
    some ((), h)
  ) else (
    G (xc h a0 = 4) <|
    G (xc h (xR h a0 0) = 16) <|
    G (gx (xI h a0 1) (xz h (xR h a0 0))) <|
    LT (pI h (xR h a0 0) (xI h a0 1).toNatClampNeg i1) fun h6 =>
    G (xc h6 a0 = 4) <|
    LT (pI h6 a0 1 ((xI h6 a0 1) + (nI 1))) fun h8 =>
    some ((), h8)
  )
theorem jX4_append (x : CT) (a0 : Nat) (i1 : Int32) (h : AH) : J x qX4_append ZV 0 [(0, rv (zx x) a0), (1, .int i1)] [] h (X4_append_f a0 i1 h) := by
  unfold X4_append_f
  refine J_aload_n 0 dX4_append_0 rv_is rfl ?_
  refine J_G (fun g1 => ?_)
  refine J_getI kc_4 1 (by decide) rfl rfl kw_2_56 dX4_append_1 g1 ?_
  refine J_aload_n 0 dX4_append_4 rv_is rfl ?_
  refine J_getR kc_4 0 (by decide) rfl rfl kw_2_54 dX4_append_5 g1 ?_
  refine J_G (fun g2 => ?_)
  refine J_alen16 dX4_append_8 g2 ?_
  refine J_icmp_ge (tgt := 32) dX4_append_9 rfl ?_ ?_
  · exact J_vret dX4_append_32
  · refine J_aload_n 0 dX4_append_12 rv_is rfl ?_
    refine J_G (fun g3 => ?_)
    refine J_getR kc_4 0 (by decide) rfl rfl kw_2_54 dX4_append_13 g3 ?_
    refine J_aload_n 0 dX4_append_16 rv_is rfl ?_
    refine J_getI kc_4 1 (by decide) rfl rfl kw_2_56 dX4_append_17 g3 ?_
    refine J_iload_n 1 dX4_append_20 rfl ?_
    refine J_G (fun g4 => ?_)
    refine J_G (fun g5 => ?_)
    refine J_iast dX4_append_21 g4 g5 ?_
    refine J_LTh (fun h6 => ?_)
    refine J_aload_n 0 dX4_append_22 rv_is rfl ?_
    refine J_dup dX4_append_23 rv_cat ?_
    refine J_G (fun g7 => ?_)
    refine J_getI kc_4 1 (by decide) rfl rfl kw_2_56 dX4_append_24 g7 ?_
    refine J_iconst (v := nI 1) dX4_append_27 rfl ?_
    refine J_iadd dX4_append_28 ?_
    refine J_putI kc_4 1 (by decide) rfl rfl rfl rfl (Or.inl rfl) kw_2_56 dX4_append_29 g7 ?_
    refine J_LTh (fun h8 => ?_)
    exact J_vret dX4_append_32
theorem ctX4_append (l : Launch) (w : WT) (a0 : Nat) (i1 : Int32) (h : AH) : CM l w yX4_append cX4_append 2 none 0 0 KV [rv (w.1) a0, .int i1] h (X4_append_f a0 i1 h) :=
  CM.of (by decide +kernel) (by simp [lg_sl, rv_cat, cat_I, cat_L, cat_S]) (lv := [(0, rv (w.1) a0), (1, .int i1)]) (by simp [lv_args, rv_cat, cat_I, cat_L, cat_S]) (fun x hx => by subst hx; exact jX4_append x a0 i1 h)
-- FallTrials$Numbers.take(LFallTrials$Numbers;)V
abbrev qX4_take : MT := (cX4_take, RX4, "take", none, 1, 21, 3)
def X4_take_B7 : Nat → Nat → Nat → Int32 → AH → Option (Unit × AH)
  | 0, _, _, _, _ => none
  | n + 1, a0, a1, i2, h =>
    G (xc h a1 = 4) <|
    if (xI h a1 1) ≤ i2 then (
      some ((), h)
    ) else (
      G (xc h a1 = 4) <|
      G (xc h (xR h a1 0) = 16) <|
      G (gx i2 (xz h (xR h a1 0))) <|
      G (xc h a0 = 4) <|
      BN (X4_append_f a0 (xI h (xR h a1 0) i2.toNatClampNeg) h) fun _ h6 =>
      LT (i2 + nI 1) fun v7 =>
      X4_take_B7 n a0 a1 v7 h6
    )
theorem jX4_take_B7 (x : CT) : ∀ (n : Nat) (a0 : Nat) (a1 : Nat) (i2 : Int32) (h : AH), J x qX4_take ZV 7 [(0, rv (zx x) a0), (1, rv (zx x) a1), (2, .int i2)] [] h (X4_take_B7 n a0 a1 i2 h) := by
  intro n
  induction n with
  | zero => intro a0 a1 i2 h; exact J_none
  | succ n ih =>
    intro a0 a1 i2 h
    unfold X4_take_B7
    refine J_iload_n 2 dX4_take_7 rfl ?_
    refine J_aload_n 1 dX4_take_8 rv_is rfl ?_
    refine J_G (fun g1 => ?_)
    refine J_getI kc_4 1 (by decide) rfl rfl kw_2_56 dX4_take_9 g1 ?_
    refine J_icmp_ge (tgt := 31) dX4_take_12 rfl ?_ ?_
    · exact J_vret dX4_take_31
    · refine J_aload_n 0 dX4_take_15 rv_is rfl ?_
      refine J_aload_n 1 dX4_take_16 rv_is rfl ?_
      refine J_G (fun g2 => ?_)
      refine J_getR kc_4 0 (by decide) rfl rfl kw_2_54 dX4_take_17 g2 ?_
      refine J_iload_n 2 dX4_take_20 rfl ?_
      refine J_G (fun g3 => ?_)
      refine J_G (fun g4 => ?_)
      refine J_iald dX4_take_21 g3 g4 ?_
      refine J_G (fun g5 => ?_)
      refine J.callV (n := 1) (As := [.int (xI h (xR h a1 0) i2.toNatClampNeg)]) kc_4 (ctX4_append (lx x) (wx x) a0 (xI h (xR h a1 0) i2.toNatClampNeg) h) kw_5_156 kw_5_161 kw_5_154 kw_5_155 kw_1_6 (by decide +kernel) rfl (by decide) (Nat.zero_le _) rfl dX4_take_22 g5 (fun _ h6 => ?_)
      show J x _ _ 25 _ [] h6 _
      refine J_iincL (u := i2 + nI 1) 2 dX4_take_25 rfl rfl (by decide) (SD.c (lvr := [(0, rv (zx x) a0), (1, rv (zx x) a1)]) [0, 1] rfl rfl 1 rfl rfl rv_cat) (fun v7 => ?_)
      refine J_goto (tgt := 7) dX4_take_28 rfl ?_
      exact J_sub [1, 2, 0] rfl (ih a0 a1 v7 h6)
def X4_take_f (a0 : Nat) (a1 : Nat) (h : AH) : Option (Unit × AH) :=
  G (xc h a0 = 4) <|
  LT (pI h a0 1 (nI 0)) fun h2 =>
  X4_take_B7 FU a0 a1 (nI 0) h2
theorem jX4_take (x : CT) (a0 : Nat) (a1 : Nat) (h : AH) : J x qX4_take ZV 0 [(0, rv (zx x) a0), (1, rv (zx x) a1)] [] h (X4_take_f a0 a1 h) := by
  unfold X4_take_f
  refine J_aload_n 0 dX4_take_0 rv_is rfl ?_
  refine J_iconst (v := nI 0) dX4_take_1 rfl ?_
  refine J_G (fun g1 => ?_)
  refine J_putI kc_4 1 (by decide) rfl rfl rfl rfl (Or.inl rfl) kw_2_56 dX4_take_2 g1 ?_
  refine J_LTh (fun h2 => ?_)
  refine J_iconst (v := nI 0) dX4_take_5 rfl ?_
  refine J_istore_n dX4_take_6 (by decide) (SD.c (lvr := [(0, rv (zx x) a0), (1, rv (zx x) a1)]) [0, 1] rfl rfl 1 rfl rfl rv_cat) ?_
  exact J_sub [1, 2, 0] rfl (jX4_take_B7 x FU a0 a1 (nI 0) h2)
theorem ctX4_take (l : Launch) (w : WT) (a0 : Nat) (a1 : Nat) (h : AH) : CM l w yX4_take cX4_take 3 none 1 21 KV [rv (w.1) a0, rv (w.1) a1] h (X4_take_f a0 a1 h) :=
  CM.of (by decide +kernel) (by simp [lg_sl, rv_cat, cat_I, cat_L, cat_S]) (lv := [(0, rv (w.1) a0), (1, rv (w.1) a1)]) (by simp [lv_args, rv_cat, cat_I, cat_L, cat_S]) (fun x hx => by subst hx; exact jX4_take x a0 a1 h)
-- FallTrials$Numbers.at(I)I
abbrev qX4_at : MT := (cX4_at, RX4, "at", (some .int), 0, 0, 2)
def X4_at_f (a0 : Nat) (i1 : Int32) (h : AH) : Option (Int32 × AH) :=
  if i1 < 0 then (
    some ((-1), h)
  ) else (
    G (xc h a0 = 4) <|
    if (xI h a0 1) ≤ i1 then (
      some ((-1), h)
    ) else (
      G (xc h a0 = 4) <|
      G (xc h (xR h a0 0) = 16) <|
      G (gx i1 (xz h (xR h a0 0))) <|
      some (xI h (xR h a0 0) i1.toNatClampNeg, h)
    )
  )
theorem jX4_at (x : CT) (a0 : Nat) (i1 : Int32) (h : AH) : J x qX4_at ZI 0 [(0, rv (zx x) a0), (1, .int i1)] [] h (X4_at_f a0 i1 h) := by
  unfold X4_at_f
  refine J_iload_n 1 dX4_at_0 rfl ?_
  refine J_if_lt (tgt := 21) dX4_at_1 rfl ?_ ?_
  · refine J_iconst (v := (-1)) dX4_at_21 rfl ?_
    exact J_iret dX4_at_22
  · refine J_iload_n 1 dX4_at_4 rfl ?_
    refine J_aload_n 0 dX4_at_5 rv_is rfl ?_
    refine J_G (fun g1 => ?_)
    refine J_getI kc_4 1 (by decide) rfl rfl kw_2_56 dX4_at_6 g1 ?_
    refine J_icmp_ge (tgt := 21) dX4_at_9 rfl ?_ ?_
    · refine J_iconst (v := (-1)) dX4_at_21 rfl ?_
      exact J_iret dX4_at_22
    · refine J_aload_n 0 dX4_at_12 rv_is rfl ?_
      refine J_G (fun g2 => ?_)
      refine J_getR kc_4 0 (by decide) rfl rfl kw_2_54 dX4_at_13 g2 ?_
      refine J_iload_n 1 dX4_at_16 rfl ?_
      refine J_G (fun g3 => ?_)
      refine J_G (fun g4 => ?_)
      refine J_iald dX4_at_17 g3 g4 ?_
      refine J_goto (tgt := 22) dX4_at_18 rfl ?_
      exact J_iret dX4_at_22
theorem ctX4_at (l : Launch) (w : WT) (a0 : Nat) (i1 : Int32) (h : AH) : CM l w yX4_at cX4_at 2 (some .int) 0 0 KI [rv (w.1) a0, .int i1] h (X4_at_f a0 i1 h) :=
  CM.of (by decide +kernel) (by simp [lg_sl, rv_cat, cat_I, cat_L, cat_S]) (lv := [(0, rv (w.1) a0), (1, .int i1)]) (by simp [lv_args, rv_cat, cat_I, cat_L, cat_S]) (fun x hx => by subst hx; exact jX4_at x a0 i1 h)
-- FallTrials$Numbers.dropAt(I)V
abbrev qX4_dropAt : MT := (cX4_dropAt, RX4, "dropAt", none, 0, 0, 3)
def X4_dropAt_B25 : Nat → Nat → Int32 → AH → Option (Unit × AH)
  | 0, _, _, _ => none
  | n + 1, a0, i2, h =>
    G (xc h a0 = 4) <|
    if (xI h a0 1) ≤ i2 then (
      some ((), h)
    ) else (
      G (xc h a0 = 4) <|
      G (xc h (xR h a0 0) = 16) <|
      G (gx (i2 + (nI 1)) (xz h (xR h a0 0))) <|
      G (gx i2 (xz h (xR h a0 0))) <|
      LT (pI h (xR h a0 0) i2.toNatClampNeg (xI h (xR h a0 0) (i2 + (nI 1)).toNatClampNeg)) fun h6 =>
      LT (i2 + nI 1) fun v7 =>
      X4_dropAt_B25 n a0 v7 h6
    )
theorem jX4_dropAt_B25 (x : CT) : ∀ (n : Nat) (a0 : Nat) (i2 : Int32) (h : AH), J x qX4_dropAt ZV 25 [(0, rv (zx x) a0), (2, .int i2)] [] h (X4_dropAt_B25 n a0 i2 h) := by
  intro n
  induction n with
  | zero => intro a0 i2 h; exact J_none
  | succ n ih =>
    intro a0 i2 h
    unfold X4_dropAt_B25
    refine J_iload_n 1 dX4_dropAt_25 rfl ?_
    refine J_aload_n 0 dX4_dropAt_26 rv_is rfl ?_
    refine J_G (fun g1 => ?_)
    refine J_getI kc_4 1 (by decide) rfl rfl kw_2_56 dX4_dropAt_27 g1 ?_
    refine J_icmp_ge (tgt := 53) dX4_dropAt_30 rfl ?_ ?_
    · exact J_vret dX4_dropAt_53
    · refine J_aload_n 0 dX4_dropAt_33 rv_is rfl ?_
      refine J_G (fun g2 => ?_)
      refine J_getR kc_4 0 (by decide) rfl rfl kw_2_54 dX4_dropAt_34 g2 ?_
      refine J_iload_n 1 dX4_dropAt_37 rfl ?_
      refine J_aload_n 0 dX4_dropAt_38 rv_is rfl ?_
      refine J_getR kc_4 0 (by decide) rfl rfl kw_2_54 dX4_dropAt_39 g2 ?_
      refine J_iload_n 1 dX4_dropAt_42 rfl ?_
      refine J_iconst (v := nI 1) dX4_dropAt_43 rfl ?_
      refine J_iadd dX4_dropAt_44 ?_
      refine J_G (fun g3 => ?_)
      refine J_G (fun g4 => ?_)
      refine J_iald dX4_dropAt_45 g3 g4 ?_
      refine J_G (fun g5 => ?_)
      refine J_iast dX4_dropAt_46 g3 g5 ?_
      refine J_LTh (fun h6 => ?_)
      refine J_iincL (u := i2 + nI 1) 1 dX4_dropAt_47 rfl rfl (by decide) (SD.a (lvr := [(0, rv (zx x) a0)]) [0] rfl rfl) (fun v7 => ?_)
      refine J_goto (tgt := 25) dX4_dropAt_50 rfl ?_
      exact J_sub [1, 0] rfl (ih a0 v7 h6)
def X4_dropAt_f (a0 : Nat) (i1 : Int32) (h : AH) : Option (Unit × AH) :=
  if i1 < 0 then (
    some ((), h)
  ) else (
    G (xc h a0 = 4) <|
    if i1 < (xI h a0 1) then (
      G (xc h a0 = 4) <|
      LT (pI h a0 1 ((xI h a0 1) - (nI 1))) fun h3 =>
      X4_dropAt_B25 FU a0 i1 h3
    ) else (
      some ((), h)
    )
  )
theorem jX4_dropAt (x : CT) (a0 : Nat) (i1 : Int32) (h : AH) : J x qX4_dropAt ZV 0 [(0, rv (zx x) a0), (1, .int i1)] [] h (X4_dropAt_f a0 i1 h) := by
  unfold X4_dropAt_f
  refine J_iload_n 1 dX4_dropAt_0 rfl ?_
  refine J_if_lt (tgt := 12) dX4_dropAt_1 rfl ?_ ?_
  · exact J_vret dX4_dropAt_12
  · refine J_iload_n 1 dX4_dropAt_4 rfl ?_
    refine J_aload_n 0 dX4_dropAt_5 rv_is rfl ?_
    refine J_G (fun g1 => ?_)
    refine J_getI kc_4 1 (by decide) rfl rfl kw_2_56 dX4_dropAt_6 g1 ?_
    refine J_icmp_lt (tgt := 13) dX4_dropAt_9 rfl ?_ ?_
    · refine J_aload_n 0 dX4_dropAt_13 rv_is rfl ?_
      refine J_dup dX4_dropAt_14 rv_cat ?_
      refine J_G (fun g2 => ?_)
      refine J_getI kc_4 1 (by decide) rfl rfl kw_2_56 dX4_dropAt_15 g2 ?_
      refine J_iconst (v := nI 1) dX4_dropAt_18 rfl ?_
      refine J_isub dX4_dropAt_19 ?_
      refine J_putI kc_4 1 (by decide) rfl rfl rfl rfl (Or.inl rfl) kw_2_56 dX4_dropAt_20 g2 ?_
      refine J_LTh (fun h3 => ?_)
      refine J_iload_n 1 dX4_dropAt_23 rfl ?_
      refine J_istore_n dX4_dropAt_24 (by decide) (SD.a (lvr := [(0, rv (zx x) a0)]) [0] rfl rfl) ?_
      exact J_sub [1, 0] rfl (jX4_dropAt_B25 x FU a0 i1 h3)
    · exact J_vret dX4_dropAt_12
theorem ctX4_dropAt (l : Launch) (w : WT) (a0 : Nat) (i1 : Int32) (h : AH) : CM l w yX4_dropAt cX4_dropAt 3 none 0 0 KV [rv (w.1) a0, .int i1] h (X4_dropAt_f a0 i1 h) :=
  CM.of (by decide +kernel) (by simp [lg_sl, rv_cat, cat_I, cat_L, cat_S]) (lv := [(0, rv (w.1) a0), (1, .int i1)]) (by simp [lv_args, rv_cat, cat_I, cat_L, cat_S]) (fun x hx => by subst hx; exact jX4_dropAt x a0 i1 h)
-- FallTrials$Purse.<init>()V
abbrev qX5_init : MT := (cX5_init, RX5, "<init>", none, 1, 20, 1)
def X5_init_f (a0 : Nat) (h : AH) : Option (Unit × AH) :=
  G (xc h a0 ≠ 99) <|
  LT (xn h) fun r4 =>
  LT (pN h 16 (nI 4).toNatClampNeg) fun h3 =>
  G (xc h3 a0 = 5) <|
  LT (pR h3 a0 0 r4) fun h6 =>
  LT (xn h6) fun r9 =>
  LT (pN h6 16 (nI 120).toNatClampNeg) fun h8 =>
  G (xc h8 a0 = 5) <|
  LT (pR h8 a0 1 r9) fun h11 =>
  LT (xn h11) fun r14 =>
  LT (pN h11 16 (nI 3).toNatClampNeg) fun h13 =>
  G (xc h13 a0 = 5) <|
  LT (pR h13 a0 2 r14) fun h16 =>
  LT (xn h16) fun r19 =>
  LT (pN h16 16 (nI 4).toNatClampNeg) fun h18 =>
  G (xc h18 a0 = 5) <|
  LT (pR h18 a0 3 r19) fun h21 =>
  some ((), h21)
theorem jX5_init (x : CT) (a0 : Nat) (h : AH) : J x qX5_init ZV 0 [(0, rv (zx x) a0)] [] h (X5_init_f a0 h) := by
  unfold X5_init_f
  refine J_aload_n 0 dX5_init_0 rv_is rfl ?_
  refine J_G (fun g1 => ?_)
  refine J_objInit kw_2_76 kw_1_35 kw_1_36 (by decide) dX5_init_1 g1 ?_
  refine J_aload_n 0 dX5_init_4 rv_is rfl ?_
  refine J_iconst (v := nI 4) dX5_init_5 rfl ?_
  refine J_newarr16 kw_1_101 dX5_init_6 (by decide) ?_
  refine J_LTr (fun r4 => ?_)
  refine J_LTh (fun h3 => ?_)
  refine J_G (fun g5 => ?_)
  refine J_putR kc_5 0 (by decide) rfl rfl (Or.inr ⟨_, rfl⟩) (Or.inr ⟨rfl, rfl, rfl⟩) kw_2_77 dX5_init_8 g5 ?_
  refine J_LTh (fun h6 => ?_)
  refine J_aload_n 0 dX5_init_11 rv_is rfl ?_
  refine J_bipush (v := nI 120) dX5_init_12 rfl ?_
  refine J_newarr16 kw_1_101 dX5_init_14 (by decide) ?_
  refine J_LTr (fun r9 => ?_)
  refine J_LTh (fun h8 => ?_)
  refine J_G (fun g10 => ?_)
  refine J_putR kc_5 1 (by decide) rfl rfl (Or.inr ⟨_, rfl⟩) (Or.inr ⟨rfl, rfl, rfl⟩) kw_2_79 dX5_init_16 g10 ?_
  refine J_LTh (fun h11 => ?_)
  refine J_aload_n 0 dX5_init_19 rv_is rfl ?_
  refine J_iconst (v := nI 3) dX5_init_20 rfl ?_
  refine J_newarr16 kw_1_101 dX5_init_21 (by decide) ?_
  refine J_LTr (fun r14 => ?_)
  refine J_LTh (fun h13 => ?_)
  refine J_G (fun g15 => ?_)
  refine J_putR kc_5 2 (by decide) rfl rfl (Or.inr ⟨_, rfl⟩) (Or.inr ⟨rfl, rfl, rfl⟩) kw_2_80 dX5_init_23 g15 ?_
  refine J_LTh (fun h16 => ?_)
  refine J_aload_n 0 dX5_init_26 rv_is rfl ?_
  refine J_iconst (v := nI 4) dX5_init_27 rfl ?_
  refine J_newarr16 kw_1_101 dX5_init_28 (by decide) ?_
  refine J_LTr (fun r19 => ?_)
  refine J_LTh (fun h18 => ?_)
  refine J_G (fun g20 => ?_)
  refine J_putR kc_5 3 (by decide) rfl rfl (Or.inr ⟨_, rfl⟩) (Or.inr ⟨rfl, rfl, rfl⟩) kw_2_81 dX5_init_30 g20 ?_
  refine J_LTh (fun h21 => ?_)
  exact J_vret dX5_init_33
theorem ctX5_init (l : Launch) (w : WT) (a0 : Nat) (h : AH) : CM l w yX5_init cX5_init 1 none 1 20 KV [rv (w.1) a0] h (X5_init_f a0 h) :=
  CM.of (by decide +kernel) (by simp [lg_sl, rv_cat, cat_I, cat_L, cat_S]) (lv := [(0, rv (w.1) a0)]) (by simp [lv_args, rv_cat, cat_I, cat_L, cat_S]) (fun x hx => by subst hx; exact jX5_init x a0 h)
-- FallTrials$Purse.beginAnew()V
abbrev qX5_beginAnew : MT := (cX5_beginAnew, RX5, "beginAnew", none, 0, 0, 1)
def X5_beginAnew_f (a0 : Nat) (h : AH) : Option (Unit × AH) :=
  G (xc h a0 = 5) <|
  G (xc h (xR h a0 0) = 16) <|
  G (gx (nI 0) (xz h (xR h a0 0))) <|
  LT (pI h (xR h a0 0) (nI 0).toNatClampNeg (nI 1)) fun h4 =>
  G (xc h4 a0 = 5) <|
  G (xc h4 (xR h4 a0 0) = 16) <|
  G (gx (nI 1) (xz h4 (xR h4 a0 0))) <|
  LT (pI h4 (xR h4 a0 0) (nI 1).toNatClampNeg (nI 1)) fun h8 =>
  G (xc h8 a0 = 5) <|
  G (xc h8 (xR h8 a0 0) = 16) <|
  G (gx (nI 2) (xz h8 (xR h8 a0 0))) <|
  LT (pI h8 (xR h8 a0 0) (nI 2).toNatClampNeg (nI 0)) fun h12 =>
  G (xc h12 a0 = 5) <|
  G (xc h12 (xR h12 a0 0) = 16) <|
  G (gx (nI 3) (xz h12 (xR h12 a0 0))) <|
  LT (pI h12 (xR h12 a0 0) (nI 3).toNatClampNeg (nI 0)) fun h16 =>
  some ((), h16)
theorem jX5_beginAnew (x : CT) (a0 : Nat) (h : AH) : J x qX5_beginAnew ZV 0 [(0, rv (zx x) a0)] [] h (X5_beginAnew_f a0 h) := by
  unfold X5_beginAnew_f
  refine J_aload_n 0 dX5_beginAnew_0 rv_is rfl ?_
  refine J_G (fun g1 => ?_)
  refine J_getR kc_5 0 (by decide) rfl rfl kw_2_77 dX5_beginAnew_1 g1 ?_
  refine J_iconst (v := nI 0) dX5_beginAnew_4 rfl ?_
  refine J_iconst (v := nI 1) dX5_beginAnew_5 rfl ?_
  refine J_G (fun g2 => ?_)
  refine J_G (fun g3 => ?_)
  refine J_iast dX5_beginAnew_6 g2 g3 ?_
  refine J_LTh (fun h4 => ?_)
  refine J_aload_n 0 dX5_beginAnew_7 rv_is rfl ?_
  refine J_G (fun g5 => ?_)
  refine J_getR kc_5 0 (by decide) rfl rfl kw_2_77 dX5_beginAnew_8 g5 ?_
  refine J_iconst (v := nI 1) dX5_beginAnew_11 rfl ?_
  refine J_iconst (v := nI 1) dX5_beginAnew_12 rfl ?_
  refine J_G (fun g6 => ?_)
  refine J_G (fun g7 => ?_)
  refine J_iast dX5_beginAnew_13 g6 g7 ?_
  refine J_LTh (fun h8 => ?_)
  refine J_aload_n 0 dX5_beginAnew_14 rv_is rfl ?_
  refine J_G (fun g9 => ?_)
  refine J_getR kc_5 0 (by decide) rfl rfl kw_2_77 dX5_beginAnew_15 g9 ?_
  refine J_iconst (v := nI 2) dX5_beginAnew_18 rfl ?_
  refine J_iconst (v := nI 0) dX5_beginAnew_19 rfl ?_
  refine J_G (fun g10 => ?_)
  refine J_G (fun g11 => ?_)
  refine J_iast dX5_beginAnew_20 g10 g11 ?_
  refine J_LTh (fun h12 => ?_)
  refine J_aload_n 0 dX5_beginAnew_21 rv_is rfl ?_
  refine J_G (fun g13 => ?_)
  refine J_getR kc_5 0 (by decide) rfl rfl kw_2_77 dX5_beginAnew_22 g13 ?_
  refine J_iconst (v := nI 3) dX5_beginAnew_25 rfl ?_
  refine J_iconst (v := nI 0) dX5_beginAnew_26 rfl ?_
  refine J_G (fun g14 => ?_)
  refine J_G (fun g15 => ?_)
  refine J_iast dX5_beginAnew_27 g14 g15 ?_
  refine J_LTh (fun h16 => ?_)
  exact J_vret dX5_beginAnew_28
theorem ctX5_beginAnew (l : Launch) (w : WT) (a0 : Nat) (h : AH) : CM l w yX5_beginAnew cX5_beginAnew 1 none 0 0 KV [rv (w.1) a0] h (X5_beginAnew_f a0 h) :=
  CM.of (by decide +kernel) (by simp [lg_sl, rv_cat, cat_I, cat_L, cat_S]) (lv := [(0, rv (w.1) a0)]) (by simp [lv_args, rv_cat, cat_I, cat_L, cat_S]) (fun x hx => by subst hx; exact jX5_beginAnew x a0 h)
-- FallTrials$Purse.total()I
abbrev qX5_total : MT := (cX5_total, RX5, "total", (some .int), 0, 0, 1)
def X5_total_f (a0 : Nat) (h : AH) : Option (Int32 × AH) :=
  G (xc h a0 = 5) <|
  G (xc h (xR h a0 0) = 16) <|
  G (gx (nI 0) (xz h (xR h a0 0))) <|
  G (gx (nI 1) (xz h (xR h a0 0))) <|
  G (gx (nI 2) (xz h (xR h a0 0))) <|
  G (gx (nI 3) (xz h (xR h a0 0))) <|
  some ((((xI h (xR h a0 0) (nI 0).toNatClampNeg) + (xI h (xR h a0 0) (nI 1).toNatClampNeg)) + (xI h (xR h a0 0) (nI 2).toNatClampNeg)) + (xI h (xR h a0 0) (nI 3).toNatClampNeg), h)
theorem jX5_total (x : CT) (a0 : Nat) (h : AH) : J x qX5_total ZI 0 [(0, rv (zx x) a0)] [] h (X5_total_f a0 h) := by
  unfold X5_total_f
  refine J_aload_n 0 dX5_total_0 rv_is rfl ?_
  refine J_G (fun g1 => ?_)
  refine J_getR kc_5 0 (by decide) rfl rfl kw_2_77 dX5_total_1 g1 ?_
  refine J_iconst (v := nI 0) dX5_total_4 rfl ?_
  refine J_G (fun g2 => ?_)
  refine J_G (fun g3 => ?_)
  refine J_iald dX5_total_5 g2 g3 ?_
  refine J_aload_n 0 dX5_total_6 rv_is rfl ?_
  refine J_getR kc_5 0 (by decide) rfl rfl kw_2_77 dX5_total_7 g1 ?_
  refine J_iconst (v := nI 1) dX5_total_10 rfl ?_
  refine J_G (fun g4 => ?_)
  refine J_iald dX5_total_11 g2 g4 ?_
  refine J_iadd dX5_total_12 ?_
  refine J_aload_n 0 dX5_total_13 rv_is rfl ?_
  refine J_getR kc_5 0 (by decide) rfl rfl kw_2_77 dX5_total_14 g1 ?_
  refine J_iconst (v := nI 2) dX5_total_17 rfl ?_
  refine J_G (fun g5 => ?_)
  refine J_iald dX5_total_18 g2 g5 ?_
  refine J_iadd dX5_total_19 ?_
  refine J_aload_n 0 dX5_total_20 rv_is rfl ?_
  refine J_getR kc_5 0 (by decide) rfl rfl kw_2_77 dX5_total_21 g1 ?_
  refine J_iconst (v := nI 3) dX5_total_24 rfl ?_
  refine J_G (fun g6 => ?_)
  refine J_iald dX5_total_25 g2 g6 ?_
  refine J_iadd dX5_total_26 ?_
  exact J_iret dX5_total_27
theorem ctX5_total (l : Launch) (w : WT) (a0 : Nat) (h : AH) : CM l w yX5_total cX5_total 1 (some .int) 0 0 KI [rv (w.1) a0] h (X5_total_f a0 h) :=
  CM.of (by decide +kernel) (by simp [lg_sl, rv_cat, cat_I, cat_L, cat_S]) (lv := [(0, rv (w.1) a0)]) (by simp [lv_args, rv_cat, cat_I, cat_L, cat_S]) (fun x hx => by subst hx; exact jX5_total x a0 h)
-- FallTrials$Purse.fallsOf(LFallTrials$Works;I)I
abbrev qX5_fallsOf : MT := (cX5_fallsOf, RX5, "fallsOf", (some .int), 1, 21, 3)
def X5_fallsOf_f (a0 : Nat) (a1 : Nat) (i2 : Int32) (h : AH) : Option (Int32 × AH) :=
  G (xc h a0 = 5) <|
  G (xc h (xR h a0 0) = 16) <|
  G (gx i2 (xz h (xR h a0 0))) <|
  if (xI h (xR h a0 0) i2.toNatClampNeg) = 0 then (
    some (nI 0, h)
  ) else (
    G (xc h a1 = 10) <|
    G (xc h (xR h a1 0) = 0) <|
    BN (X0_hitBy_f (xR h a1 0) i2 h) fun v7 h6 =>
    G (xc h6 a1 = 10) <|
    some (v7 * (xI h6 a1 1), h6)
  )
theorem jX5_fallsOf (x : CT) (a0 : Nat) (a1 : Nat) (i2 : Int32) (h : AH) : J x qX5_fallsOf ZI 0 [(0, rv (zx x) a0), (1, rv (zx x) a1), (2, .int i2)] [] h (X5_fallsOf_f a0 a1 i2 h) := by
  unfold X5_fallsOf_f
  refine J_aload_n 0 dX5_fallsOf_0 rv_is rfl ?_
  refine J_G (fun g1 => ?_)
  refine J_getR kc_5 0 (by decide) rfl rfl kw_2_77 dX5_fallsOf_1 g1 ?_
  refine J_iload_n 2 dX5_fallsOf_4 rfl ?_
  refine J_G (fun g2 => ?_)
  refine J_G (fun g3 => ?_)
  refine J_iald dX5_fallsOf_5 g2 g3 ?_
  refine J_if_ne (tgt := 13) dX5_fallsOf_6 rfl ?_ ?_
  · refine J_aload_n 1 dX5_fallsOf_13 rv_is rfl ?_
    refine J_G (fun g4 => ?_)
    refine J_getR kc_10 0 (by decide) rfl rfl kw_2_15 dX5_fallsOf_14 g4 ?_
    refine J_iload_n 2 dX5_fallsOf_17 rfl ?_
    refine J_G (fun g5 => ?_)
    refine J.callV (n := 1) (As := [.int i2]) kc_0 (ctX0_hitBy (lx x) (wx x) (xR h a1 0) i2 h) kw_4_93 kw_5_111 kw_4_91 kw_4_92 kw_1_2 (by decide +kernel) rfl (by decide) (Nat.zero_le _) rfl dX5_fallsOf_18 g5 (fun v7 h6 => ?_)
    show J x _ _ 21 _ [.int v7] h6 _
    refine J_aload_n 1 dX5_fallsOf_21 rv_is rfl ?_
    refine J_G (fun g8 => ?_)
    refine J_getI kc_10 1 (by decide) rfl rfl kw_2_21 dX5_fallsOf_22 g8 ?_
    refine J_imul dX5_fallsOf_25 ?_
    exact J_iret dX5_fallsOf_26
  · refine J_iconst (v := nI 0) dX5_fallsOf_9 rfl ?_
    refine J_goto (tgt := 26) dX5_fallsOf_10 rfl ?_
    exact J_iret dX5_fallsOf_26
theorem ctX5_fallsOf (l : Launch) (w : WT) (a0 : Nat) (a1 : Nat) (i2 : Int32) (h : AH) : CM l w yX5_fallsOf cX5_fallsOf 3 (some .int) 1 21 KI [rv (w.1) a0, rv (w.1) a1, .int i2] h (X5_fallsOf_f a0 a1 i2 h) :=
  CM.of (by decide +kernel) (by simp [lg_sl, rv_cat, cat_I, cat_L, cat_S]) (lv := [(0, rv (w.1) a0), (1, rv (w.1) a1), (2, .int i2)]) (by simp [lv_args, rv_cat, cat_I, cat_L, cat_S]) (fun x hx => by subst hx; exact jX5_fallsOf x a0 a1 i2 h)
-- FallTrials$Purse.advanceStem(I)Z
abbrev qX5_advanceStem : MT := (cX5_advanceStem, RX5, "advanceStem", (some .boolean), 1, 21, 4)
def X5_advanceStem_B43 : Nat → Nat → Int32 → Int32 → AH → Option (Int32 × AH)
  | 0, _, _, _, _ => none
  | n + 1, a0, i1, i3, h =>
    if i1 ≤ i3 then (
      some (nI 1, h)
    ) else (
      if (nI 3) ≤ i3 then (
        some (nI 1, h)
      ) else (
        G (xc h a0 = 5) <|
        G (xc h (xR h a0 2) = 16) <|
        G (gx (i3 - (nI 1)) (xz h (xR h a0 2))) <|
        G (gx i3 (xz h (xR h a0 2))) <|
        LT (pI h (xR h a0 2) i3.toNatClampNeg ((xI h (xR h a0 2) (i3 - (nI 1)).toNatClampNeg) + (nI 1))) fun h5 =>
        LT (i3 + nI 1) fun v6 =>
        X5_advanceStem_B43 n a0 i1 v6 h5
      )
    )
theorem jX5_advanceStem_B43 (x : CT) : ∀ (n : Nat) (a0 : Nat) (i1 : Int32) (i3 : Int32) (h : AH), J x qX5_advanceStem ZI 43 [(0, rv (zx x) a0), (1, .int i1), (3, .int i3)] [] h (X5_advanceStem_B43 n a0 i1 i3 h) := by
  intro n
  induction n with
  | zero => intro a0 i1 i3 h; exact J_none
  | succ n ih =>
    intro a0 i1 i3 h
    unfold X5_advanceStem_B43
    refine J_iload_n 2 dX5_advanceStem_43 rfl ?_
    refine J_iload_n 1 dX5_advanceStem_44 rfl ?_
    refine J_icmp_ge (tgt := 75) dX5_advanceStem_45 rfl ?_ ?_
    · refine J_iconst (v := nI 1) dX5_advanceStem_75 rfl ?_
      exact J_zret dX5_advanceStem_76 (by decide)
    · refine J_iload_n 2 dX5_advanceStem_48 rfl ?_
      refine J_iconst (v := nI 3) dX5_advanceStem_49 rfl ?_
      refine J_icmp_ge (tgt := 75) dX5_advanceStem_50 rfl ?_ ?_
      · refine J_iconst (v := nI 1) dX5_advanceStem_75 rfl ?_
        exact J_zret dX5_advanceStem_76 (by decide)
      · refine J_aload_n 0 dX5_advanceStem_53 rv_is rfl ?_
        refine J_G (fun g1 => ?_)
        refine J_getR kc_5 2 (by decide) rfl rfl kw_2_80 dX5_advanceStem_54 g1 ?_
        refine J_iload_n 2 dX5_advanceStem_57 rfl ?_
        refine J_aload_n 0 dX5_advanceStem_58 rv_is rfl ?_
        refine J_getR kc_5 2 (by decide) rfl rfl kw_2_80 dX5_advanceStem_59 g1 ?_
        refine J_iload_n 2 dX5_advanceStem_62 rfl ?_
        refine J_iconst (v := nI 1) dX5_advanceStem_63 rfl ?_
        refine J_isub dX5_advanceStem_64 ?_
        refine J_G (fun g2 => ?_)
        refine J_G (fun g3 => ?_)
        refine J_iald dX5_advanceStem_65 g2 g3 ?_
        refine J_iconst (v := nI 1) dX5_advanceStem_66 rfl ?_
        refine J_iadd dX5_advanceStem_67 ?_
        refine J_G (fun g4 => ?_)
        refine J_iast dX5_advanceStem_68 g2 g4 ?_
        refine J_LTh (fun h5 => ?_)
        refine J_iincL (u := i3 + nI 1) 2 dX5_advanceStem_69 rfl rfl (by decide) (SD.a (lvr := [(0, rv (zx x) a0), (1, .int i1)]) [0, 1] rfl rfl) (fun v6 => ?_)
        refine J_goto (tgt := 43) dX5_advanceStem_72 rfl ?_
        exact J_sub [1, 2, 0] rfl (ih a0 i1 v6 h5)
def X5_advanceStem_B29 (a0 : Nat) (i1 : Int32) (i2 : Int32) (h : AH) : Option (Int32 × AH) :=
  G (xc h a0 = 5) <|
  G (xc h (xR h a0 2) = 16) <|
  G (gx i2 (xz h (xR h a0 2))) <|
  G (gx i2 (xz h (xR h a0 2))) <|
  LT (pI h (xR h a0 2) i2.toNatClampNeg ((xI h (xR h a0 2) i2.toNatClampNeg) + (nI 1))) fun h5 =>
  LT (i2 + (nI 1)) fun v6 =>
  X5_advanceStem_B43 FU a0 i1 v6 h5
theorem jX5_advanceStem_B29 (x : CT) (a0 : Nat) (i1 : Int32) (i2 : Int32) (h : AH) : J x qX5_advanceStem ZI 29 [(0, rv (zx x) a0), (1, .int i1), (2, .int i2)] [] h (X5_advanceStem_B29 a0 i1 i2 h) := by
  unfold X5_advanceStem_B29
  refine J_aload_n 0 dX5_advanceStem_29 rv_is rfl ?_
  refine J_G (fun g1 => ?_)
  refine J_getR kc_5 2 (by decide) rfl rfl kw_2_80 dX5_advanceStem_30 g1 ?_
  refine J_iload_n 2 dX5_advanceStem_33 rfl ?_
  refine J_dup2 dX5_advanceStem_34 rfl rv_cat ?_
  refine J_G (fun g2 => ?_)
  refine J_G (fun g3 => ?_)
  refine J_iald dX5_advanceStem_35 g2 g3 ?_
  refine J_iconst (v := nI 1) dX5_advanceStem_36 rfl ?_
  refine J_iadd dX5_advanceStem_37 ?_
  refine J_G (fun g4 => ?_)
  refine J_iast dX5_advanceStem_38 g2 g4 ?_
  refine J_LTh (fun h5 => ?_)
  refine J_iload_n 2 dX5_advanceStem_39 rfl ?_
  refine J_iconst (v := nI 1) dX5_advanceStem_40 rfl ?_
  refine J_iadd dX5_advanceStem_41 ?_
  refine J_LTi (fun v6 => ?_)
  refine J_istore_n dX5_advanceStem_42 (by decide) (SD.a (lvr := [(0, rv (zx x) a0), (1, .int i1)]) [0, 1] rfl rfl) ?_
  exact J_sub [1, 2, 0] rfl (jX5_advanceStem_B43 x FU a0 i1 v6 h5)
def X5_advanceStem_B8 : Nat → Nat → Int32 → Int32 → AH → Option (Int32 × AH)
  | 0, _, _, _, _ => none
  | n + 1, a0, i1, i2, h =>
    if i2 < 0 then (
      some (nI 0, h)
    ) else (
      G (xc h a0 = 5) <|
      G (xc h (xR h a0 2) = 16) <|
      G (gx i2 (xz h (xR h a0 2))) <|
      if (((xI h a0 4) - i1) + i2) ≤ (xI h (xR h a0 2) i2.toNatClampNeg) then (
        LT (i2 + (-1)) fun v4 =>
        X5_advanceStem_B8 n a0 i1 v4 h
      ) else (
        X5_advanceStem_B29 a0 i1 i2 h
      )
    )
theorem jX5_advanceStem_B8 (x : CT) : ∀ (n : Nat) (a0 : Nat) (i1 : Int32) (i2 : Int32) (h : AH), J x qX5_advanceStem ZI 8 [(0, rv (zx x) a0), (1, .int i1), (2, .int i2)] [] h (X5_advanceStem_B8 n a0 i1 i2 h) := by
  intro n
  induction n with
  | zero => intro a0 i1 i2 h; exact J_none
  | succ n ih =>
    intro a0 i1 i2 h
    unfold X5_advanceStem_B8
    refine J_iload_n 2 dX5_advanceStem_8 rfl ?_
    refine J_if_lt (tgt := 83) dX5_advanceStem_9 rfl ?_ ?_
    · refine J_iconst (v := nI 0) dX5_advanceStem_83 rfl ?_
      exact J_zret dX5_advanceStem_84 (by decide)
    · refine J_aload_n 0 dX5_advanceStem_12 rv_is rfl ?_
      refine J_G (fun g1 => ?_)
      refine J_getR kc_5 2 (by decide) rfl rfl kw_2_80 dX5_advanceStem_13 g1 ?_
      refine J_iload_n 2 dX5_advanceStem_16 rfl ?_
      refine J_G (fun g2 => ?_)
      refine J_G (fun g3 => ?_)
      refine J_iald dX5_advanceStem_17 g2 g3 ?_
      refine J_aload_n 0 dX5_advanceStem_18 rv_is rfl ?_
      refine J_getI kc_5 4 (by decide) rfl rfl kw_2_82 dX5_advanceStem_19 g1 ?_
      refine J_iload_n 1 dX5_advanceStem_22 rfl ?_
      refine J_isub dX5_advanceStem_23 ?_
      refine J_iload_n 2 dX5_advanceStem_24 rfl ?_
      refine J_iadd dX5_advanceStem_25 ?_
      refine J_icmp_ge (tgt := 77) dX5_advanceStem_26 rfl ?_ ?_
      · refine J_iincL (u := i2 + (-1)) 2 dX5_advanceStem_77 rfl rfl (by decide) (SD.a (lvr := [(0, rv (zx x) a0), (1, .int i1)]) [0, 1] rfl rfl) (fun v4 => ?_)
        refine J_goto (tgt := 8) dX5_advanceStem_80 rfl ?_
        exact J_sub [1, 2, 0] rfl (ih a0 i1 v4 h)
      · exact (jX5_advanceStem_B29 x a0 i1 i2 h)
def X5_advanceStem_f (a0 : Nat) (i1 : Int32) (h : AH) : Option (Int32 × AH) :=
  LT ((if (nI 3) < i1 then (nI 3) else i1) - (nI 1)) fun v1 =>
  X5_advanceStem_B8 FU a0 i1 v1 h
theorem jX5_advanceStem (x : CT) (a0 : Nat) (i1 : Int32) (h : AH) : J x qX5_advanceStem ZI 0 [(0, rv (zx x) a0), (1, .int i1)] [] h (X5_advanceStem_f a0 i1 h) := by
  unfold X5_advanceStem_f
  refine J_iload_n 1 dX5_advanceStem_0 rfl ?_
  refine J_iconst (v := nI 3) dX5_advanceStem_1 rfl ?_
  refine J_mmin kw_5_135 kw_3_118 kw_1_19 kw_3_119 (by decide) dX5_advanceStem_2 ?_
  refine J_iconst (v := nI 1) dX5_advanceStem_5 rfl ?_
  refine J_isub dX5_advanceStem_6 ?_
  refine J_LTi (fun v1 => ?_)
  refine J_istore_n dX5_advanceStem_7 (by decide) (SD.a (lvr := [(0, rv (zx x) a0), (1, .int i1)]) [0, 1] rfl rfl) ?_
  exact J_sub [1, 2, 0] rfl (jX5_advanceStem_B8 x FU a0 i1 v1 h)
theorem ctX5_advanceStem (l : Launch) (w : WT) (a0 : Nat) (i1 : Int32) (h : AH) : CM l w yX5_advanceStem cX5_advanceStem 4 (some .boolean) 1 21 KI [rv (w.1) a0, .int i1] h (X5_advanceStem_f a0 i1 h) :=
  CM.of (by decide +kernel) (by simp [lg_sl, rv_cat, cat_I, cat_L, cat_S]) (lv := [(0, rv (w.1) a0), (1, .int i1)]) (by simp [lv_args, rv_cat, cat_I, cat_L, cat_S]) (fun x hx => by subst hx; exact jX5_advanceStem x a0 i1 h)
-- FallTrials$Purse.writeSet(ILFallTrials$Numbers;)V
abbrev qX5_writeSet : MT := (cX5_writeSet, RX5, "writeSet", none, 1, 21, 4)
def X5_writeSet_B42 (a0 : Nat) (i1 : Int32) (a2 : Nat) (h : AH) : Option (Unit × AH) :=
  G (xc h a0 = 5) <|
  LT ((xI h a0 6) + i1) fun v2 =>
  if v2 < 0 then (
    some ((), h)
  ) else (
    G (xc h a0 = 5) <|
    if (xI h a0 4) ≤ v2 then (
      some ((), h)
    ) else (
      G (xc h a0 = 5) <|
      G (xc h (xR h a0 1) = 16) <|
      G (gx v2 (xz h (xR h a0 1))) <|
      G (xc h a2 = 4) <|
      BN (X4_append_f a2 (xI h (xR h a0 1) v2.toNatClampNeg) h) fun _ h8 =>
      some ((), h8)
    )
  )
theorem jX5_writeSet_B42 (x : CT) (a0 : Nat) (i1 : Int32) (a2 : Nat) (h : AH) : J x qX5_writeSet ZV 42 [(0, rv (zx x) a0), (1, .int i1), (2, rv (zx x) a2)] [] h (X5_writeSet_B42 a0 i1 a2 h) := by
  unfold X5_writeSet_B42
  refine J_aload_n 0 dX5_writeSet_42 rv_is rfl ?_
  refine J_G (fun g1 => ?_)
  refine J_getI kc_5 6 (by decide) rfl rfl kw_2_85 dX5_writeSet_43 g1 ?_
  refine J_iload_n 1 dX5_writeSet_46 rfl ?_
  refine J_iadd dX5_writeSet_47 ?_
  refine J_LTi (fun v2 => ?_)
  refine J_istore_n dX5_writeSet_48 (by decide) (SD.c (lvr := [(0, rv (zx x) a0), (2, rv (zx x) a2)]) [0, 2] rfl rfl 1 rfl rfl rv_cat) ?_
  refine J_iload_n 0 dX5_writeSet_49 rfl ?_
  refine J_if_lt (tgt := 71) dX5_writeSet_50 rfl ?_ ?_
  · exact J_vret dX5_writeSet_71
  · refine J_iload_n 0 dX5_writeSet_53 rfl ?_
    refine J_aload_n 1 dX5_writeSet_54 rv_is rfl ?_
    refine J_G (fun g3 => ?_)
    refine J_getI kc_5 4 (by decide) rfl rfl kw_2_82 dX5_writeSet_55 g3 ?_
    refine J_icmp_ge (tgt := 71) dX5_writeSet_58 rfl ?_ ?_
    · exact J_vret dX5_writeSet_71
    · refine J_aload_n 2 dX5_writeSet_61 rv_is rfl ?_
      refine J_aload_n 1 dX5_writeSet_62 rv_is rfl ?_
      refine J_G (fun g4 => ?_)
      refine J_getR kc_5 1 (by decide) rfl rfl kw_2_79 dX5_writeSet_63 g4 ?_
      refine J_iload_n 0 dX5_writeSet_66 rfl ?_
      refine J_G (fun g5 => ?_)
      refine J_G (fun g6 => ?_)
      refine J_iald dX5_writeSet_67 g5 g6 ?_
      refine J_G (fun g7 => ?_)
      refine J.callV (n := 1) (As := [.int (xI h (xR h a0 1) v2.toNatClampNeg)]) kc_4 (ctX4_append (lx x) (wx x) a2 (xI h (xR h a0 1) v2.toNatClampNeg) h) kw_5_156 kw_5_153 kw_5_154 kw_5_155 kw_1_6 (by decide +kernel) rfl (by decide) (Nat.zero_le _) rfl dX5_writeSet_68 g7 (fun _ h8 => ?_)
      show J x _ _ 71 _ [] h8 _
      exact J_vret dX5_writeSet_71
def X5_writeSet_B6 : Nat → Nat → Int32 → Nat → Int32 → AH → Option (Unit × AH)
  | 0, _, _, _, _, _ => none
  | n + 1, a0, i1, a2, i3, h =>
    G (xc h a0 = 5) <|
    if ((xI h a0 5) - (nI 1)) ≤ i3 then (
      X5_writeSet_B42 a0 i1 a2 h
    ) else (
      if (nI 3) ≤ i3 then (
        X5_writeSet_B42 a0 i1 a2 h
      ) else (
        G (xc h a0 = 5) <|
        G (xc h (xR h a0 2) = 16) <|
        G (gx i3 (xz h (xR h a0 2))) <|
        G (xc h (xR h a0 1) = 16) <|
        G (gx (xI h (xR h a0 2) i3.toNatClampNeg) (xz h (xR h a0 1))) <|
        G (xc h a2 = 4) <|
        BN (X4_append_f a2 (xI h (xR h a0 1) (xI h (xR h a0 2) i3.toNatClampNeg).toNatClampNeg) h) fun _ h8 =>
        LT (i3 + nI 1) fun v9 =>
        X5_writeSet_B6 n a0 i1 a2 v9 h8
      )
    )
theorem jX5_writeSet_B6 (x : CT) : ∀ (n : Nat) (a0 : Nat) (i1 : Int32) (a2 : Nat) (i3 : Int32) (h : AH), J x qX5_writeSet ZV 6 [(0, rv (zx x) a0), (1, .int i1), (2, rv (zx x) a2), (3, .int i3)] [] h (X5_writeSet_B6 n a0 i1 a2 i3 h) := by
  intro n
  induction n with
  | zero => intro a0 i1 a2 i3 h; exact J_none
  | succ n ih =>
    intro a0 i1 a2 i3 h
    unfold X5_writeSet_B6
    refine J_iload_n 3 dX5_writeSet_6 rfl ?_
    refine J_aload_n 0 dX5_writeSet_7 rv_is rfl ?_
    refine J_G (fun g1 => ?_)
    refine J_getI kc_5 5 (by decide) rfl rfl kw_2_83 dX5_writeSet_8 g1 ?_
    refine J_iconst (v := nI 1) dX5_writeSet_11 rfl ?_
    refine J_isub dX5_writeSet_12 ?_
    refine J_icmp_ge (tgt := 42) dX5_writeSet_13 rfl ?_ ?_
    · exact J_sub [0, 1, 2] rfl (jX5_writeSet_B42 x a0 i1 a2 h)
    · refine J_iload_n 3 dX5_writeSet_16 rfl ?_
      refine J_iconst (v := nI 3) dX5_writeSet_17 rfl ?_
      refine J_icmp_ge (tgt := 42) dX5_writeSet_18 rfl ?_ ?_
      · exact J_sub [0, 1, 2] rfl (jX5_writeSet_B42 x a0 i1 a2 h)
      · refine J_aload_n 2 dX5_writeSet_21 rv_is rfl ?_
        refine J_aload_n 0 dX5_writeSet_22 rv_is rfl ?_
        refine J_G (fun g2 => ?_)
        refine J_getR kc_5 1 (by decide) rfl rfl kw_2_79 dX5_writeSet_23 g2 ?_
        refine J_aload_n 0 dX5_writeSet_26 rv_is rfl ?_
        refine J_getR kc_5 2 (by decide) rfl rfl kw_2_80 dX5_writeSet_27 g2 ?_
        refine J_iload_n 3 dX5_writeSet_30 rfl ?_
        refine J_G (fun g3 => ?_)
        refine J_G (fun g4 => ?_)
        refine J_iald dX5_writeSet_31 g3 g4 ?_
        refine J_G (fun g5 => ?_)
        refine J_G (fun g6 => ?_)
        refine J_iald dX5_writeSet_32 g5 g6 ?_
        refine J_G (fun g7 => ?_)
        refine J.callV (n := 1) (As := [.int (xI h (xR h a0 1) (xI h (xR h a0 2) i3.toNatClampNeg).toNatClampNeg)]) kc_4 (ctX4_append (lx x) (wx x) a2 (xI h (xR h a0 1) (xI h (xR h a0 2) i3.toNatClampNeg).toNatClampNeg) h) kw_5_156 kw_5_153 kw_5_154 kw_5_155 kw_1_6 (by decide +kernel) rfl (by decide) (Nat.zero_le _) rfl dX5_writeSet_33 g7 (fun _ h8 => ?_)
        show J x _ _ 36 _ [] h8 _
        refine J_iincL (u := i3 + nI 1) 3 dX5_writeSet_36 rfl rfl (by decide) (SD.c (lvr := [(0, rv (zx x) a0), (1, .int i1), (2, rv (zx x) a2)]) [0, 1, 2] rfl rfl 2 rfl rfl rv_cat) (fun v9 => ?_)
        refine J_goto (tgt := 6) dX5_writeSet_39 rfl ?_
        exact J_sub [1, 2, 3, 0] rfl (ih a0 i1 a2 v9 h8)
def X5_writeSet_f (a0 : Nat) (i1 : Int32) (a2 : Nat) (h : AH) : Option (Unit × AH) :=
  G (xc h a2 = 4) <|
  BN (X4_wipe_f a2 h) fun _ h2 =>
  X5_writeSet_B6 FU a0 i1 a2 (nI 0) h2
theorem jX5_writeSet (x : CT) (a0 : Nat) (i1 : Int32) (a2 : Nat) (h : AH) : J x qX5_writeSet ZV 0 [(0, rv (zx x) a0), (1, .int i1), (2, rv (zx x) a2)] [] h (X5_writeSet_f a0 i1 a2 h) := by
  unfold X5_writeSet_f
  refine J_aload_n 2 dX5_writeSet_0 rv_is rfl ?_
  refine J_G (fun g1 => ?_)
  refine J.callV (n := 0) (As := []) kc_4 (ctX4_wipe (lx x) (wx x) a2 h) kw_4_52 kw_5_152 kw_4_50 kw_4_51 kw_1_6 (by decide +kernel) rfl (by decide) (Nat.zero_le _) rfl dX5_writeSet_1 g1 (fun _ h2 => ?_)
  show J x _ _ 4 _ [] h2 _
  refine J_iconst (v := nI 0) dX5_writeSet_4 rfl ?_
  refine J_istore_n dX5_writeSet_5 (by decide) (SD.c (lvr := [(0, rv (zx x) a0), (1, .int i1), (2, rv (zx x) a2)]) [0, 1, 2] rfl rfl 2 rfl rfl rv_cat) ?_
  exact J_sub [1, 2, 3, 0] rfl (jX5_writeSet_B6 x FU a0 i1 a2 (nI 0) h2)
theorem ctX5_writeSet (l : Launch) (w : WT) (a0 : Nat) (i1 : Int32) (a2 : Nat) (h : AH) : CM l w yX5_writeSet cX5_writeSet 4 none 1 21 KV [rv (w.1) a0, .int i1, rv (w.1) a2] h (X5_writeSet_f a0 i1 a2 h) :=
  CM.of (by decide +kernel) (by simp [lg_sl, rv_cat, cat_I, cat_L, cat_S]) (lv := [(0, rv (w.1) a0), (1, .int i1), (2, rv (w.1) a2)]) (by simp [lv_args, rv_cat, cat_I, cat_L, cat_S]) (fun x hx => by subst hx; exact jX5_writeSet x a0 i1 a2 h)
-- FallTrials$Purse.setCount(LFallTrials$Works;)I
abbrev qX5_setCount : MT := (cX5_setCount, RX5, "setCount", (some .int), 2, 43, 8)
def X5_setCount_B83 (i2 : Int32) (h : AH) : Option (Int32 × AH) :=
  some (i2 - (nI 1), h)
theorem jX5_setCount_B83 (x : CT) (i2 : Int32) (h : AH) : J x qX5_setCount ZI 83 [(2, .int i2)] [] h (X5_setCount_B83 i2 h) := by
  unfold X5_setCount_B83
  refine J_iload_n 0 dX5_setCount_83 rfl ?_
  refine J_iconst (v := nI 1) dX5_setCount_84 rfl ?_
  refine J_isub dX5_setCount_85 ?_
  exact J_iret dX5_setCount_86
def X5_setCount_B72 (k4 : (Nat → Nat → Int32 → Int32 → AH → Option (Int32 × AH))) (a0 : Nat) (a1 : Nat) (i2 : Int32) (i3 : Int32) (i5 : Int32) (h : AH) : Option (Int32 × AH) :=
  LT (i2 * i5) fun v1 =>
  LT (i3 + nI 1) fun v2 =>
  k4 a0 a1 v1 v2 h
theorem jX5_setCount_B72 (x : CT) (k4 : (Nat → Nat → Int32 → Int32 → AH → Option (Int32 × AH))) (hk4 : ∀ (a0 : Nat) (a1 : Nat) (i2 : Int32) (i3 : Int32) (h : AH), J x qX5_setCount ZI 4 [(0, rv (zx x) a0), (1, rv (zx x) a1), (2, .int i2), (3, .int i3)] [] h (k4 a0 a1 i2 i3 h)) (a0 : Nat) (a1 : Nat) (i2 : Int32) (i3 : Int32) (i5 : Int32) (h : AH) : J x qX5_setCount ZI 72 [(0, rv (zx x) a0), (1, rv (zx x) a1), (2, .int i2), (3, .int i3), (5, .int i5)] [] h (X5_setCount_B72 k4 a0 a1 i2 i3 i5 h) := by
  unfold X5_setCount_B72
  refine J_iload_n 2 dX5_setCount_72 rfl ?_
  refine J_iload 4 dX5_setCount_73 rfl ?_
  refine J_imul dX5_setCount_75 ?_
  refine J_LTi (fun v1 => ?_)
  refine J_istore_n dX5_setCount_76 (by decide) (SD.c (lvr := [(0, rv (zx x) a0), (1, rv (zx x) a1), (3, .int i3)]) [0, 1, 3] rfl rfl 1 rfl rfl rv_cat) ?_
  refine J_iincL (u := i3 + nI 1) 3 dX5_setCount_77 rfl rfl (by decide) (SD.a (lvr := [(2, .int v1), (0, rv (zx x) a0), (1, rv (zx x) a1)]) [0, 1, 2] rfl rfl) (fun v2 => ?_)
  refine J_goto (tgt := 4) dX5_setCount_80 rfl ?_
  exact J_sub [2, 3, 1, 0] rfl (hk4 a0 a1 v1 v2 h)
def X5_setCount_B26 (k4 : (Nat → Nat → Int32 → Int32 → AH → Option (Int32 × AH))) : Nat → Nat → Nat → Int32 → Int32 → Int32 → Int32 → Int32 → Int32 → AH → Option (Int32 × AH)
  | 0, _, _, _, _, _, _, _, _, _ => none
  | n + 1, a0, a1, i2, i3, i4, i5, i6, i7, h =>
    G (xc h a0 = 5) <|
    G (xc h (xR h a0 0) = 16) <|
    G (gx i3 (xz h (xR h a0 0))) <|
    if (xI h (xR h a0 0) i3.toNatClampNeg) < i7 then (
      X5_setCount_B72 k4 a0 a1 i2 i3 i5 h
    ) else (
      if i4 < i7 then (
        X5_setCount_B72 k4 a0 a1 i2 i3 i5 h
      ) else (
        G (¬ i7 = 0) <|
        LT ((i6 * ((i4 - i7) + (nI 1))) / i7) fun v5 =>
        LT (i5 + v5) fun v6 =>
        LT (i7 + nI 1) fun v7 =>
        X5_setCount_B26 k4 n a0 a1 i2 i3 i4 v6 v5 v7 h
      )
    )
theorem jX5_setCount_B26 (x : CT) (k4 : (Nat → Nat → Int32 → Int32 → AH → Option (Int32 × AH))) (hk4 : ∀ (a0 : Nat) (a1 : Nat) (i2 : Int32) (i3 : Int32) (h : AH), J x qX5_setCount ZI 4 [(0, rv (zx x) a0), (1, rv (zx x) a1), (2, .int i2), (3, .int i3)] [] h (k4 a0 a1 i2 i3 h)) : ∀ (n : Nat) (a0 : Nat) (a1 : Nat) (i2 : Int32) (i3 : Int32) (i4 : Int32) (i5 : Int32) (i6 : Int32) (i7 : Int32) (h : AH), J x qX5_setCount ZI 26 [(0, rv (zx x) a0), (1, rv (zx x) a1), (2, .int i2), (3, .int i3), (4, .int i4), (5, .int i5), (6, .int i6), (7, .int i7)] [] h (X5_setCount_B26 k4 n a0 a1 i2 i3 i4 i5 i6 i7 h) := by
  intro n
  induction n with
  | zero => intro a0 a1 i2 i3 i4 i5 i6 i7 h; exact J_none
  | succ n ih =>
    intro a0 a1 i2 i3 i4 i5 i6 i7 h
    unfold X5_setCount_B26
    refine J_iload 7 dX5_setCount_26 rfl ?_
    refine J_aload_n 0 dX5_setCount_28 rv_is rfl ?_
    refine J_G (fun g1 => ?_)
    refine J_getR kc_5 0 (by decide) rfl rfl kw_2_77 dX5_setCount_29 g1 ?_
    refine J_iload_n 3 dX5_setCount_32 rfl ?_
    refine J_G (fun g2 => ?_)
    refine J_G (fun g3 => ?_)
    refine J_iald dX5_setCount_33 g2 g3 ?_
    refine J_icmp_gt (tgt := 72) dX5_setCount_34 rfl ?_ ?_
    · exact J_sub [0, 1, 2, 3, 5] rfl (jX5_setCount_B72 x k4 hk4 a0 a1 i2 i3 i5 h)
    · refine J_iload 7 dX5_setCount_37 rfl ?_
      refine J_iload 4 dX5_setCount_39 rfl ?_
      refine J_icmp_gt (tgt := 72) dX5_setCount_41 rfl ?_ ?_
      · exact J_sub [0, 1, 2, 3, 5] rfl (jX5_setCount_B72 x k4 hk4 a0 a1 i2 i3 i5 h)
      · refine J_iload 6 dX5_setCount_44 rfl ?_
        refine J_iload 4 dX5_setCount_46 rfl ?_
        refine J_iload 7 dX5_setCount_48 rfl ?_
        refine J_isub dX5_setCount_50 ?_
        refine J_iconst (v := nI 1) dX5_setCount_51 rfl ?_
        refine J_iadd dX5_setCount_52 ?_
        refine J_imul dX5_setCount_53 ?_
        refine J_iload 7 dX5_setCount_54 rfl ?_
        refine J_G (fun g4 => ?_)
        refine J_idiv dX5_setCount_56 g4 ?_
        refine J_LTi (fun v5 => ?_)
        refine J_istore dX5_setCount_57 (by decide) (SD.a (lvr := [(0, rv (zx x) a0), (1, rv (zx x) a1), (2, .int i2), (3, .int i3), (4, .int i4), (5, .int i5), (7, .int i7)]) [0, 1, 2, 3, 4, 5, 7] rfl rfl) ?_
        refine J_iload 6 dX5_setCount_59 rfl ?_
        refine J_iload 0 dX5_setCount_61 rfl ?_
        refine J_iadd dX5_setCount_63 ?_
        refine J_LTi (fun v6 => ?_)
        refine J_istore dX5_setCount_64 (by decide) (SD.a (lvr := [(6, .int v5), (0, rv (zx x) a0), (1, rv (zx x) a1), (2, .int i2), (3, .int i3), (4, .int i4), (7, .int i7)]) [0, 1, 2, 3, 4, 5, 7] rfl rfl) ?_
        refine J_iincL (u := i7 + nI 1) 7 dX5_setCount_66 rfl rfl (by decide) (SD.a (lvr := [(5, .int v6), (6, .int v5), (0, rv (zx x) a0), (1, rv (zx x) a1), (2, .int i2), (3, .int i3), (4, .int i4)]) [0, 1, 2, 3, 4, 5, 6] rfl rfl) (fun v7 => ?_)
        refine J_goto (tgt := 26) dX5_setCount_69 rfl ?_
        exact J_sub [3, 4, 5, 6, 7, 1, 2, 0] rfl (ih a0 a1 i2 i3 i4 v6 v5 v7 h)
def X5_setCount_B4 : Nat → Nat → Nat → Int32 → Int32 → AH → Option (Int32 × AH)
  | 0, _, _, _, _, _ => none
  | n + 1, a0, a1, i2, i3, h =>
    if (nI 4) ≤ i3 then (
      X5_setCount_B83 i2 h
    ) else (
      G (xc h a0 = 5) <|
      BN (X5_fallsOf_f a0 a1 i3 h) fun v3 h2 =>
      X5_setCount_B26 (X5_setCount_B4 n) FU a0 a1 i2 i3 v3 (nI 1) (nI 1) (nI 1) h2
    )
theorem jX5_setCount_B4 (x : CT) : ∀ (n : Nat) (a0 : Nat) (a1 : Nat) (i2 : Int32) (i3 : Int32) (h : AH), J x qX5_setCount ZI 4 [(0, rv (zx x) a0), (1, rv (zx x) a1), (2, .int i2), (3, .int i3)] [] h (X5_setCount_B4 n a0 a1 i2 i3 h) := by
  intro n
  induction n with
  | zero => intro a0 a1 i2 i3 h; exact J_none
  | succ n ih =>
    intro a0 a1 i2 i3 h
    unfold X5_setCount_B4
    refine J_iload_n 3 dX5_setCount_4 rfl ?_
    refine J_iconst (v := nI 4) dX5_setCount_5 rfl ?_
    refine J_icmp_ge (tgt := 83) dX5_setCount_6 rfl ?_ ?_
    · exact J_sub [2] rfl (jX5_setCount_B83 x i2 h)
    · refine J_aload_n 0 dX5_setCount_9 rv_is rfl ?_
      refine J_aload_n 1 dX5_setCount_10 rv_is rfl ?_
      refine J_iload_n 3 dX5_setCount_11 rfl ?_
      refine J_G (fun g1 => ?_)
      refine J.callV (n := 2) (As := [rv (zx x) a1, .int i3]) kc_5 (ctX5_fallsOf (lx x) (wx x) a0 a1 i3 h) kw_5_110 kw_5_107 kw_5_108 kw_5_109 kw_1_8 (by decide +kernel) rfl (by decide) (Nat.zero_le _) rfl dX5_setCount_12 g1 (fun v3 h2 => ?_)
      show J x _ _ 15 _ [.int v3] h2 _
      refine J_istore dX5_setCount_15 (by decide) (SD.a (lvr := [(0, rv (zx x) a0), (1, rv (zx x) a1), (2, .int i2), (3, .int i3)]) [0, 1, 2, 3] rfl rfl) ?_
      refine J_iconst (v := nI 1) dX5_setCount_17 rfl ?_
      refine J_istore dX5_setCount_18 (by decide) (SD.a (lvr := [(4, .int v3), (0, rv (zx x) a0), (1, rv (zx x) a1), (2, .int i2), (3, .int i3)]) [0, 1, 2, 3, 4] rfl rfl) ?_
      refine J_iconst (v := nI 1) dX5_setCount_20 rfl ?_
      refine J_istore dX5_setCount_21 (by decide) (SD.a (lvr := [(5, .int (nI 1)), (4, .int v3), (0, rv (zx x) a0), (1, rv (zx x) a1), (2, .int i2), (3, .int i3)]) [0, 1, 2, 3, 4, 5] rfl rfl) ?_
      refine J_iconst (v := nI 1) dX5_setCount_23 rfl ?_
      refine J_istore dX5_setCount_24 (by decide) (SD.a (lvr := [(6, .int (nI 1)), (5, .int (nI 1)), (4, .int v3), (0, rv (zx x) a0), (1, rv (zx x) a1), (2, .int i2), (3, .int i3)]) [0, 1, 2, 3, 4, 5, 6] rfl rfl) ?_
      exact J_sub [4, 5, 6, 7, 3, 2, 1, 0] rfl (jX5_setCount_B26 x (X5_setCount_B4 n) ih FU a0 a1 i2 i3 v3 (nI 1) (nI 1) (nI 1) h2)
def X5_setCount_f (a0 : Nat) (a1 : Nat) (h : AH) : Option (Int32 × AH) :=
  X5_setCount_B4 FU a0 a1 (nI 1) (nI 0) h
theorem jX5_setCount (x : CT) (a0 : Nat) (a1 : Nat) (h : AH) : J x qX5_setCount ZI 0 [(0, rv (zx x) a0), (1, rv (zx x) a1)] [] h (X5_setCount_f a0 a1 h) := by
  unfold X5_setCount_f
  refine J_iconst (v := nI 1) dX5_setCount_0 rfl ?_
  refine J_istore_n dX5_setCount_1 (by decide) (SD.c (lvr := [(0, rv (zx x) a0), (1, rv (zx x) a1)]) [0, 1] rfl rfl 1 rfl rfl rv_cat) ?_
  refine J_iconst (v := nI 0) dX5_setCount_2 rfl ?_
  refine J_istore_n dX5_setCount_3 (by decide) (SD.a (lvr := [(2, .int (nI 1)), (0, rv (zx x) a0), (1, rv (zx x) a1)]) [0, 1, 2] rfl rfl) ?_
  exact J_sub [2, 3, 1, 0] rfl (jX5_setCount_B4 x FU a0 a1 (nI 1) (nI 0) h)
theorem ctX5_setCount (l : Launch) (w : WT) (a0 : Nat) (a1 : Nat) (h : AH) : CM l w yX5_setCount cX5_setCount 8 (some .int) 2 43 KI [rv (w.1) a0, rv (w.1) a1] h (X5_setCount_f a0 a1 h) :=
  CM.of (by decide +kernel) (by simp [lg_sl, rv_cat, cat_I, cat_L, cat_S]) (lv := [(0, rv (w.1) a0), (1, rv (w.1) a1)]) (by simp [lv_args, rv_cat, cat_I, cat_L, cat_S]) (fun x hx => by subst hx; exact jX5_setCount x a0 a1 h)
-- FallTrials$Reader.<init>(LFallTrials$Book;)V
abbrev qX6_init : MT := (cX6_init, RX6, "<init>", none, 1, 20, 2)
def X6_init_f (a0 : Nat) (a1 : Nat) (h : AH) : Option (Unit × AH) :=
  G (xc h a0 ≠ 99) <|
  LT (xn h) fun r4 =>
  LT (pN h 18 (nI 700).toNatClampNeg) fun h3 =>
  G (xc h3 a0 = 6) <|
  LT (pR h3 a0 0 r4) fun h6 =>
  LT (xn h6) fun r9 =>
  LT (pN h6 17 (nI 14).toNatClampNeg) fun h8 =>
  G (xc h8 a0 = 6) <|
  LT (pR h8 a0 1 r9) fun h11 =>
  LT (xn h11) fun r14 =>
  LT (pN h11 16 (nI 14).toNatClampNeg) fun h13 =>
  G (xc h13 a0 = 6) <|
  LT (pR h13 a0 2 r14) fun h16 =>
  G (xc h16 a0 = 6) <|
  LT (pR h16 a0 10 a1) fun h18 =>
  some ((), h18)
theorem jX6_init (x : CT) (a0 : Nat) (a1 : Nat) (h : AH) : J x qX6_init ZV 0 [(0, rv (zx x) a0), (1, rv (zx x) a1)] [] h (X6_init_f a0 a1 h) := by
  unfold X6_init_f
  refine J_aload_n 0 dX6_init_0 rv_is rfl ?_
  refine J_G (fun g1 => ?_)
  refine J_objInit kw_1_204 kw_1_35 kw_1_36 (by decide) dX6_init_1 g1 ?_
  refine J_aload_n 0 dX6_init_4 rv_is rfl ?_
  refine J_sipush (v := nI 700) dX6_init_5 rfl ?_
  refine J_newarr18 kw_2_2 dX6_init_8 (by decide) ?_
  refine J_LTr (fun r4 => ?_)
  refine J_LTh (fun h3 => ?_)
  refine J_G (fun g5 => ?_)
  refine J_putR kc_6 0 (by decide) rfl rfl (Or.inr ⟨_, rfl⟩) (Or.inr ⟨rfl, rfl, rfl⟩) kw_1_205 dX6_init_10 g5 ?_
  refine J_LTh (fun h6 => ?_)
  refine J_aload_n 0 dX6_init_13 rv_is rfl ?_
  refine J_bipush (v := nI 14) dX6_init_14 rfl ?_
  refine J_newarr17 kw_2_3 dX6_init_16 (by decide) ?_
  refine J_LTr (fun r9 => ?_)
  refine J_LTh (fun h8 => ?_)
  refine J_G (fun g10 => ?_)
  refine J_putR kc_6 1 (by decide) rfl rfl (Or.inr ⟨_, rfl⟩) (Or.inr ⟨rfl, rfl, rfl⟩) kw_1_206 dX6_init_18 g10 ?_
  refine J_LTh (fun h11 => ?_)
  refine J_aload_n 0 dX6_init_21 rv_is rfl ?_
  refine J_bipush (v := nI 14) dX6_init_22 rfl ?_
  refine J_newarr16 kw_1_101 dX6_init_24 (by decide) ?_
  refine J_LTr (fun r14 => ?_)
  refine J_LTh (fun h13 => ?_)
  refine J_G (fun g15 => ?_)
  refine J_putR kc_6 2 (by decide) rfl rfl (Or.inr ⟨_, rfl⟩) (Or.inr ⟨rfl, rfl, rfl⟩) kw_1_207 dX6_init_26 g15 ?_
  refine J_LTh (fun h16 => ?_)
  refine J_aload_n 0 dX6_init_29 rv_is rfl ?_
  refine J_aload_n 1 dX6_init_30 rv_is rfl ?_
  refine J_G (fun g17 => ?_)
  refine J_putR kc_6 10 (by decide) rfl rfl (Or.inl ⟨_, rfl⟩) (Or.inl rfl) kw_1_218 dX6_init_31 g17 ?_
  refine J_LTh (fun h18 => ?_)
  exact J_vret dX6_init_34
theorem ctX6_init (l : Launch) (w : WT) (a0 : Nat) (a1 : Nat) (h : AH) : CM l w yX6_init cX6_init 2 none 1 20 KV [rv (w.1) a0, rv (w.1) a1] h (X6_init_f a0 a1 h) :=
  CM.of (by decide +kernel) (by simp [lg_sl, rv_cat, cat_I, cat_L, cat_S]) (lv := [(0, rv (w.1) a0), (1, rv (w.1) a1)]) (by simp [lv_args, rv_cat, cat_I, cat_L, cat_S]) (fun x hx => by subst hx; exact jX6_init x a0 a1 h)
-- FallTrials$Reader.takeNumber(I)V
abbrev qX6_takeNumber : MT := (cX6_takeNumber, RX6, "takeNumber", none, 0, 0, 3)
def X6_takeNumber_B3 : Nat → Nat → Int32 → Int32 → AH → Option (Unit × AH)
  | 0, _, _, _, _ => none
  | n + 1, a0, i1, i2, h =>
    if i2 < 0 then (
      some ((), h)
    ) else (
      G (xc h a0 = 6) <|
      if (nI 700) ≤ (xI h a0 4) then (
        some ((), h)
      ) else (
        G (xc h a0 = 6) <|
        G (xc h (xR h a0 0) = 18) <|
        G (gx (xI h a0 4) (xz h (xR h a0 0))) <|
        LT (pI h (xR h a0 0) (xI h a0 4).toNatClampNeg (vp_nar .byte ((i1 >>> (i2 &&& 31)).toInt8.toInt32))) fun h5 =>
        G (xc h5 a0 = 6) <|
        LT (pI h5 a0 4 ((xI h5 a0 4) + (nI 1))) fun h7 =>
        LT (i2 + (-8)) fun v8 =>
        X6_takeNumber_B3 n a0 i1 v8 h7
      )
    )
theorem jX6_takeNumber_B3 (x : CT) : ∀ (n : Nat) (a0 : Nat) (i1 : Int32) (i2 : Int32) (h : AH), J x qX6_takeNumber ZV 3 [(0, rv (zx x) a0), (1, .int i1), (2, .int i2)] [] h (X6_takeNumber_B3 n a0 i1 i2 h) := by
  intro n
  induction n with
  | zero => intro a0 i1 i2 h; exact J_none
  | succ n ih =>
    intro a0 i1 i2 h
    unfold X6_takeNumber_B3
    refine J_iload_n 2 dX6_takeNumber_3 rfl ?_
    refine J_if_lt (tgt := 46) dX6_takeNumber_4 rfl ?_ ?_
    · exact J_vret dX6_takeNumber_46
    · refine J_aload_n 0 dX6_takeNumber_7 rv_is rfl ?_
      refine J_G (fun g1 => ?_)
      refine J_getI kc_6 4 (by decide) rfl rfl kw_1_210 dX6_takeNumber_8 g1 ?_
      refine J_sipush (v := nI 700) dX6_takeNumber_11 rfl ?_
      refine J_icmp_ge (tgt := 46) dX6_takeNumber_14 rfl ?_ ?_
      · exact J_vret dX6_takeNumber_46
      · refine J_aload_n 0 dX6_takeNumber_17 rv_is rfl ?_
        refine J_G (fun g2 => ?_)
        refine J_getR kc_6 0 (by decide) rfl rfl kw_1_205 dX6_takeNumber_18 g2 ?_
        refine J_aload_n 0 dX6_takeNumber_21 rv_is rfl ?_
        refine J_getI kc_6 4 (by decide) rfl rfl kw_1_210 dX6_takeNumber_22 g2 ?_
        refine J_iload_n 1 dX6_takeNumber_25 rfl ?_
        refine J_iload_n 2 dX6_takeNumber_26 rfl ?_
        refine J_ishr dX6_takeNumber_27 ?_
        refine J_i2b dX6_takeNumber_28 ?_
        refine J_G (fun g3 => ?_)
        refine J_G (fun g4 => ?_)
        refine J_bast dX6_takeNumber_29 g3 g4 ?_
        refine J_LTh (fun h5 => ?_)
        refine J_aload_n 0 dX6_takeNumber_30 rv_is rfl ?_
        refine J_dup dX6_takeNumber_31 rv_cat ?_
        refine J_G (fun g6 => ?_)
        refine J_getI kc_6 4 (by decide) rfl rfl kw_1_210 dX6_takeNumber_32 g6 ?_
        refine J_iconst (v := nI 1) dX6_takeNumber_35 rfl ?_
        refine J_iadd dX6_takeNumber_36 ?_
        refine J_putI kc_6 4 (by decide) rfl rfl rfl rfl (Or.inl rfl) kw_1_210 dX6_takeNumber_37 g6 ?_
        refine J_LTh (fun h7 => ?_)
        refine J_iincL (u := i2 + (-8)) 2 dX6_takeNumber_40 rfl rfl (by decide) (SD.a (lvr := [(0, rv (zx x) a0), (1, .int i1)]) [0, 1] rfl rfl) (fun v8 => ?_)
        refine J_goto (tgt := 3) dX6_takeNumber_43 rfl ?_
        exact J_sub [1, 2, 0] rfl (ih a0 i1 v8 h7)
def X6_takeNumber_f (a0 : Nat) (i1 : Int32) (h : AH) : Option (Unit × AH) :=
  X6_takeNumber_B3 FU a0 i1 (nI 24) h
theorem jX6_takeNumber (x : CT) (a0 : Nat) (i1 : Int32) (h : AH) : J x qX6_takeNumber ZV 0 [(0, rv (zx x) a0), (1, .int i1)] [] h (X6_takeNumber_f a0 i1 h) := by
  unfold X6_takeNumber_f
  refine J_bipush (v := nI 24) dX6_takeNumber_0 rfl ?_
  refine J_istore_n dX6_takeNumber_2 (by decide) (SD.a (lvr := [(0, rv (zx x) a0), (1, .int i1)]) [0, 1] rfl rfl) ?_
  exact J_sub [1, 2, 0] rfl (jX6_takeNumber_B3 x FU a0 i1 (nI 24) h)
theorem ctX6_takeNumber (l : Launch) (w : WT) (a0 : Nat) (i1 : Int32) (h : AH) : CM l w yX6_takeNumber cX6_takeNumber 3 none 0 0 KV [rv (w.1) a0, .int i1] h (X6_takeNumber_f a0 i1 h) :=
  CM.of (by decide +kernel) (by simp [lg_sl, rv_cat, cat_I, cat_L, cat_S]) (lv := [(0, rv (w.1) a0), (1, .int i1)]) (by simp [lv_args, rv_cat, cat_I, cat_L, cat_S]) (fun x hx => by subst hx; exact jX6_takeNumber x a0 i1 h)
