-- FallTrials$Trace.addReason(I)V
abbrev qX8_addReason : MT := (cX8_addReason, RX8, "addReason", none, 0, 0, 2)
def X8_addReason_f (a0 : Nat) (i1 : Int32) (h : AH) : Option (Unit × AH) :=
  G (xc h a0 = 8) <|
  G (xc h (xR h a0 4) = 16) <|
  if (nI (xz h (xR h a0 4))) ≤ (xI h a0 5) then (
    some ((), h)
  ) else (
    G (xc h a0 = 8) <|
    G (xc h (xR h a0 4) = 16) <|
    G (gx (xI h a0 5) (xz h (xR h a0 4))) <|
    LT (pI h (xR h a0 4) (xI h a0 5).toNatClampNeg i1) fun h6 =>
    G (xc h6 a0 = 8) <|
    LT (pI h6 a0 5 ((xI h6 a0 5) + (nI 1))) fun h8 =>
    some ((), h8)
  )
theorem jX8_addReason (x : CT) (a0 : Nat) (i1 : Int32) (h : AH) : J x qX8_addReason ZV 0 [(0, rv (zx x) a0), (1, .int i1)] [] h (X8_addReason_f a0 i1 h) := by
  unfold X8_addReason_f
  refine J_aload_n 0 dX8_addReason_0 rv_is rfl ?_
  refine J_G (fun g1 => ?_)
  refine J_getI kc_8 5 (by decide) rfl rfl kw_2_148 dX8_addReason_1 g1 ?_
  refine J_aload_n 0 dX8_addReason_4 rv_is rfl ?_
  refine J_getR kc_8 4 (by decide) rfl rfl kw_2_146 dX8_addReason_5 g1 ?_
  refine J_G (fun g2 => ?_)
  refine J_alen16 dX8_addReason_8 g2 ?_
  refine J_icmp_ge (tgt := 32) dX8_addReason_9 rfl ?_ ?_
  · exact J_vret dX8_addReason_32
  · refine J_aload_n 0 dX8_addReason_12 rv_is rfl ?_
    refine J_G (fun g3 => ?_)
    refine J_getR kc_8 4 (by decide) rfl rfl kw_2_146 dX8_addReason_13 g3 ?_
    refine J_aload_n 0 dX8_addReason_16 rv_is rfl ?_
    refine J_getI kc_8 5 (by decide) rfl rfl kw_2_148 dX8_addReason_17 g3 ?_
    refine J_iload_n 1 dX8_addReason_20 rfl ?_
    refine J_G (fun g4 => ?_)
    refine J_G (fun g5 => ?_)
    refine J_iast dX8_addReason_21 g4 g5 ?_
    refine J_LTh (fun h6 => ?_)
    refine J_aload_n 0 dX8_addReason_22 rv_is rfl ?_
    refine J_dup dX8_addReason_23 rv_cat ?_
    refine J_G (fun g7 => ?_)
    refine J_getI kc_8 5 (by decide) rfl rfl kw_2_148 dX8_addReason_24 g7 ?_
    refine J_iconst (v := nI 1) dX8_addReason_27 rfl ?_
    refine J_iadd dX8_addReason_28 ?_
    refine J_putI kc_8 5 (by decide) rfl rfl rfl rfl (Or.inl rfl) kw_2_148 dX8_addReason_29 g7 ?_
    refine J_LTh (fun h8 => ?_)
    exact J_vret dX8_addReason_32
theorem ctX8_addReason (l : Launch) (w : WT) (a0 : Nat) (i1 : Int32) (h : AH) : CM l w yX8_addReason cX8_addReason 2 none 0 0 KV [rv (w.1) a0, .int i1] h (X8_addReason_f a0 i1 h) :=
  CM.of (by decide +kernel) (by simp [lg_sl, rv_cat, cat_I, cat_L, cat_S]) (lv := [(0, rv (w.1) a0), (1, .int i1)]) (by simp [lv_args, rv_cat, cat_I, cat_L, cat_S]) (fun x hx => by subst hx; exact jX8_addReason x a0 i1 h)
-- FallTrials$Trace.comesIn(III)Z
abbrev qX8_comesIn : MT := (cX8_comesIn, RX8, "comesIn", (some .boolean), 0, 0, 5)
def X8_comesIn_B41 (h : AH) : Option (Int32 × AH) :=
  some (nI 1, h)
theorem jX8_comesIn_B41 (x : CT) (h : AH) : J x qX8_comesIn ZI 41 [] [] h (X8_comesIn_B41 h) := by
  unfold X8_comesIn_B41
  refine J_iconst (v := nI 1) dX8_comesIn_41 rfl ?_
  refine J_goto (tgt := 46) dX8_comesIn_42 rfl ?_
  exact J_zret dX8_comesIn_46 (by decide)
def X8_comesIn_B26 (i2 : Int32) (i3 : Int32) (i4 : Int32) (h : AH) : Option (Int32 × AH) :=
  if i4 = (nI 3) then (
    if ((i2 + (nI 1)) + (nI 2)) = i3 then (
      X8_comesIn_B41 h
    ) else (
      some (nI 0, h)
    )
  ) else (
    some (nI 0, h)
  )
theorem jX8_comesIn_B26 (x : CT) (i2 : Int32) (i3 : Int32) (i4 : Int32) (h : AH) : J x qX8_comesIn ZI 26 [(2, .int i2), (3, .int i3), (4, .int i4)] [] h (X8_comesIn_B26 i2 i3 i4 h) := by
  unfold X8_comesIn_B26
  refine J_iload 2 dX8_comesIn_26 rfl ?_
  refine J_iconst (v := nI 3) dX8_comesIn_28 rfl ?_
  refine J_icmp_ne (tgt := 45) dX8_comesIn_29 rfl ?_ ?_
  · refine J_iconst (v := nI 0) dX8_comesIn_45 rfl ?_
    exact J_zret dX8_comesIn_46 (by decide)
  · refine J_iload_n 0 dX8_comesIn_32 rfl ?_
    refine J_iconst (v := nI 1) dX8_comesIn_33 rfl ?_
    refine J_iadd dX8_comesIn_34 ?_
    refine J_iconst (v := nI 2) dX8_comesIn_35 rfl ?_
    refine J_iadd dX8_comesIn_36 ?_
    refine J_iload_n 1 dX8_comesIn_37 rfl ?_
    refine J_icmp_ne (tgt := 45) dX8_comesIn_38 rfl ?_ ?_
    · refine J_iconst (v := nI 0) dX8_comesIn_45 rfl ?_
      exact J_zret dX8_comesIn_46 (by decide)
    · exact J_sub [] rfl (jX8_comesIn_B41 x h)
def X8_comesIn_f (a0 : Nat) (i1 : Int32) (i2 : Int32) (i3 : Int32) (h : AH) : Option (Int32 × AH) :=
  G (xc h a0 = 8) <|
  G (xc h (xR h a0 3) = 16) <|
  G (gx ((i1 * (nI 7)) + i2) (xz h (xR h a0 3))) <|
  LT (xI h (xR h a0 3) ((i1 * (nI 7)) + i2).toNatClampNeg) fun v4 =>
  if v4 = (nI 1) then (
    if (i2 + (nI 1)) = i3 then (
      X8_comesIn_B41 h
    ) else (
      X8_comesIn_B26 i2 i3 v4 h
    )
  ) else (
    X8_comesIn_B26 i2 i3 v4 h
  )
theorem jX8_comesIn (x : CT) (a0 : Nat) (i1 : Int32) (i2 : Int32) (i3 : Int32) (h : AH) : J x qX8_comesIn ZI 0 [(0, rv (zx x) a0), (1, .int i1), (2, .int i2), (3, .int i3)] [] h (X8_comesIn_f a0 i1 i2 i3 h) := by
  unfold X8_comesIn_f
  refine J_aload_n 0 dX8_comesIn_0 rv_is rfl ?_
  refine J_G (fun g1 => ?_)
  refine J_getR kc_8 3 (by decide) rfl rfl kw_2_144 dX8_comesIn_1 g1 ?_
  refine J_iload_n 1 dX8_comesIn_4 rfl ?_
  refine J_bipush (v := nI 7) dX8_comesIn_5 rfl ?_
  refine J_imul dX8_comesIn_7 ?_
  refine J_iload_n 2 dX8_comesIn_8 rfl ?_
  refine J_iadd dX8_comesIn_9 ?_
  refine J_G (fun g2 => ?_)
  refine J_G (fun g3 => ?_)
  refine J_iald dX8_comesIn_10 g2 g3 ?_
  refine J_LTi (fun v4 => ?_)
  refine J_istore dX8_comesIn_11 (by decide) (SD.a (lvr := [(2, .int i2), (3, .int i3)]) [2, 3] rfl rfl) ?_
  refine J_iload 0 dX8_comesIn_13 rfl ?_
  refine J_iconst (v := nI 1) dX8_comesIn_15 rfl ?_
  refine J_icmp_ne (tgt := 26) dX8_comesIn_16 rfl ?_ ?_
  · exact J_sub [1, 2, 0] rfl (jX8_comesIn_B26 x i2 i3 v4 h)
  · refine J_iload_n 1 dX8_comesIn_19 rfl ?_
    refine J_iconst (v := nI 1) dX8_comesIn_20 rfl ?_
    refine J_iadd dX8_comesIn_21 ?_
    refine J_iload_n 2 dX8_comesIn_22 rfl ?_
    refine J_icmp_eq (tgt := 41) dX8_comesIn_23 rfl ?_ ?_
    · exact J_sub [] rfl (jX8_comesIn_B41 x h)
    · exact J_sub [1, 2, 0] rfl (jX8_comesIn_B26 x i2 i3 v4 h)
theorem ctX8_comesIn (l : Launch) (w : WT) (a0 : Nat) (i1 : Int32) (i2 : Int32) (i3 : Int32) (h : AH) : CM l w yX8_comesIn cX8_comesIn 5 (some .boolean) 0 0 KI [rv (w.1) a0, .int i1, .int i2, .int i3] h (X8_comesIn_f a0 i1 i2 i3 h) :=
  CM.of (by decide +kernel) (by simp [lg_sl, rv_cat, cat_I, cat_L, cat_S]) (lv := [(0, rv (w.1) a0), (1, .int i1), (2, .int i2), (3, .int i3)]) (by simp [lv_args, rv_cat, cat_I, cat_L, cat_S]) (fun x hx => by subst hx; exact jX8_comesIn x a0 i1 i2 i3 h)
-- FallTrials$Trace.tickAhead(II)I
abbrev qX8_tickAhead : MT := (cX8_tickAhead, RX8, "tickAhead", (some .int), 1, 22, 4)
def X8_tickAhead_B4 : Nat → Nat → Int32 → Int32 → AH → Option (Int32 × AH)
  | 0, _, _, _, _ => none
  | n + 1, a0, i1, i3, h =>
    if i3 < 0 then (
      some ((-1), h)
    ) else (
      G (xc h a0 = 8) <|
      BN (X8_isDown_f a0 i1 i3 h) fun v3 h2 =>
      if v3 = 0 then (
        some (i3, h2)
      ) else (
        LT (i3 + (-1)) fun v4 =>
        X8_tickAhead_B4 n a0 i1 v4 h2
      )
    )
theorem jX8_tickAhead_B4 (x : CT) : ∀ (n : Nat) (a0 : Nat) (i1 : Int32) (i3 : Int32) (h : AH), J x qX8_tickAhead ZI 4 [(0, rv (zx x) a0), (1, .int i1), (3, .int i3)] [] h (X8_tickAhead_B4 n a0 i1 i3 h) := by
  intro n
  induction n with
  | zero => intro a0 i1 i3 h; exact J_none
  | succ n ih =>
    intro a0 i1 i3 h
    unfold X8_tickAhead_B4
    refine J_iload_n 2 dX8_tickAhead_4 rfl ?_
    refine J_if_lt (tgt := 25) dX8_tickAhead_5 rfl ?_ ?_
    · refine J_iconst (v := (-1)) dX8_tickAhead_25 rfl ?_
      exact J_iret dX8_tickAhead_26
    · refine J_aload_n 0 dX8_tickAhead_8 rv_is rfl ?_
      refine J_iload_n 1 dX8_tickAhead_9 rfl ?_
      refine J_iload_n 2 dX8_tickAhead_10 rfl ?_
      refine J_G (fun g1 => ?_)
      refine J.callV (n := 2) (As := [.int i1, .int i3]) kc_8 (ctX8_isDown (lx x) (wx x) a0 i1 i3 h) kw_4_211 kw_4_208 kw_4_209 kw_4_210 kw_1_10 (by decide +kernel) rfl (by decide) (Nat.zero_le _) rfl dX8_tickAhead_11 g1 (fun v3 h2 => ?_)
      show J x _ _ 14 _ [.int v3] h2 _
      refine J_if_ne (tgt := 19) dX8_tickAhead_14 rfl ?_ ?_
      · refine J_iincL (u := i3 + (-1)) 2 dX8_tickAhead_19 rfl rfl (by decide) (SD.a (lvr := [(0, rv (zx x) a0), (1, .int i1)]) [0, 1] rfl rfl) (fun v4 => ?_)
        refine J_goto (tgt := 4) dX8_tickAhead_22 rfl ?_
        exact J_sub [1, 2, 0] rfl (ih a0 i1 v4 h2)
      · refine J_iload_n 2 dX8_tickAhead_17 rfl ?_
        exact J_iret dX8_tickAhead_18
def X8_tickAhead_f (a0 : Nat) (i1 : Int32) (i2 : Int32) (h : AH) : Option (Int32 × AH) :=
  LT (i2 - (nI 1)) fun v1 =>
  X8_tickAhead_B4 FU a0 i1 v1 h
theorem jX8_tickAhead (x : CT) (a0 : Nat) (i1 : Int32) (i2 : Int32) (h : AH) : J x qX8_tickAhead ZI 0 [(0, rv (zx x) a0), (1, .int i1), (2, .int i2)] [] h (X8_tickAhead_f a0 i1 i2 h) := by
  unfold X8_tickAhead_f
  refine J_iload_n 2 dX8_tickAhead_0 rfl ?_
  refine J_iconst (v := nI 1) dX8_tickAhead_1 rfl ?_
  refine J_isub dX8_tickAhead_2 ?_
  refine J_LTi (fun v1 => ?_)
  refine J_istore_n dX8_tickAhead_3 (by decide) (SD.a (lvr := [(0, rv (zx x) a0), (1, .int i1)]) [0, 1] rfl rfl) ?_
  exact J_sub [1, 2, 0] rfl (jX8_tickAhead_B4 x FU a0 i1 v1 h)
theorem ctX8_tickAhead (l : Launch) (w : WT) (a0 : Nat) (i1 : Int32) (i2 : Int32) (h : AH) : CM l w yX8_tickAhead cX8_tickAhead 4 (some .int) 1 22 KI [rv (w.1) a0, .int i1, .int i2] h (X8_tickAhead_f a0 i1 i2 h) :=
  CM.of (by decide +kernel) (by simp [lg_sl, rv_cat, cat_I, cat_L, cat_S]) (lv := [(0, rv (w.1) a0), (1, .int i1), (2, .int i2)]) (by simp [lv_args, rv_cat, cat_I, cat_L, cat_S]) (fun x hx => by subst hx; exact jX8_tickAhead x a0 i1 i2 h)
-- FallTrials$Trace.caseTick(II)I
abbrev qX8_caseTick : MT := (cX8_caseTick, RX8, "caseTick", (some .int), 0, 0, 3)
def X8_caseTick_f (a0 : Nat) (i1 : Int32) (i2 : Int32) (h : AH) : Option (Int32 × AH) :=
  G (xc h a0 = 8) <|
  G (xc h (xR h a0 2) = 16) <|
  G (gx i1 (xz h (xR h a0 2))) <|
  some (i2 - (((xI h (xR h a0 2) i1.toNatClampNeg) >>> (i2 &&& 31)) &&& (nI 1)), h)
theorem jX8_caseTick (x : CT) (a0 : Nat) (i1 : Int32) (i2 : Int32) (h : AH) : J x qX8_caseTick ZI 0 [(0, rv (zx x) a0), (1, .int i1), (2, .int i2)] [] h (X8_caseTick_f a0 i1 i2 h) := by
  unfold X8_caseTick_f
  refine J_iload_n 2 dX8_caseTick_0 rfl ?_
  refine J_aload_n 0 dX8_caseTick_1 rv_is rfl ?_
  refine J_G (fun g1 => ?_)
  refine J_getR kc_8 2 (by decide) rfl rfl kw_2_143 dX8_caseTick_2 g1 ?_
  refine J_iload_n 1 dX8_caseTick_5 rfl ?_
  refine J_G (fun g2 => ?_)
  refine J_G (fun g3 => ?_)
  refine J_iald dX8_caseTick_6 g2 g3 ?_
  refine J_iload_n 2 dX8_caseTick_7 rfl ?_
  refine J_ishr dX8_caseTick_8 ?_
  refine J_iconst (v := nI 1) dX8_caseTick_9 rfl ?_
  refine J_iand dX8_caseTick_10 ?_
  refine J_isub dX8_caseTick_11 ?_
  exact J_iret dX8_caseTick_12
theorem ctX8_caseTick (l : Launch) (w : WT) (a0 : Nat) (i1 : Int32) (i2 : Int32) (h : AH) : CM l w yX8_caseTick cX8_caseTick 3 (some .int) 0 0 KI [rv (w.1) a0, .int i1, .int i2] h (X8_caseTick_f a0 i1 i2 h) :=
  CM.of (by decide +kernel) (by simp [lg_sl, rv_cat, cat_I, cat_L, cat_S]) (lv := [(0, rv (w.1) a0), (1, .int i1), (2, .int i2)]) (by simp [lv_args, rv_cat, cat_I, cat_L, cat_S]) (fun x hx => by subst hx; exact jX8_caseTick x a0 i1 i2 h)
-- FallTrials$Trace.linkOf(III)I
abbrev qX8_linkOf : MT := (cX8_linkOf, RX8, "linkOf", (some .int), 0, 0, 3)
def X8_linkOf_f (i0 : Int32) (i1 : Int32) (i2 : Int32) (h : AH) : Option (Int32 × AH) :=
  some ((((nI 1000) * i0) + ((nI 100) * i1)) + i2, h)
theorem jX8_linkOf (x : CT) (i0 : Int32) (i1 : Int32) (i2 : Int32) (h : AH) : J x qX8_linkOf ZI 0 [(0, .int i0), (1, .int i1), (2, .int i2)] [] h (X8_linkOf_f i0 i1 i2 h) := by
  unfold X8_linkOf_f
  refine J_sipush (v := nI 1000) dX8_linkOf_0 rfl ?_
  refine J_iload_n 0 dX8_linkOf_3 rfl ?_
  refine J_imul dX8_linkOf_4 ?_
  refine J_bipush (v := nI 100) dX8_linkOf_5 rfl ?_
  refine J_iload_n 1 dX8_linkOf_7 rfl ?_
  refine J_imul dX8_linkOf_8 ?_
  refine J_iadd dX8_linkOf_9 ?_
  refine J_iload_n 2 dX8_linkOf_10 rfl ?_
  refine J_iadd dX8_linkOf_11 ?_
  exact J_iret dX8_linkOf_12
theorem ctX8_linkOf (l : Launch) (w : WT) (i0 : Int32) (i1 : Int32) (i2 : Int32) (h : AH) : CM l w yX8_linkOf cX8_linkOf 3 (some .int) 0 0 KI [.int i0, .int i1, .int i2] h (X8_linkOf_f i0 i1 i2 h) :=
  CM.of (by decide +kernel) (by simp [lg_sl, rv_cat, cat_I, cat_L, cat_S]) (lv := [(0, .int i0), (1, .int i1), (2, .int i2)]) (by simp [lv_args, rv_cat, cat_I, cat_L, cat_S]) (fun x hx => by subst hx; exact jX8_linkOf x i0 i1 i2 h)
-- FallTrials$Trials.<init>(LFallTrials$Works;)V
abbrev qX9_init : MT := (cX9_init, RX9, "<init>", none, 2, 43, 2)
def X9_init_f (a0 : Nat) (a1 : Nat) (h : AH) : Option (Unit × AH) :=
  G (xc h a0 ≠ 99) <|
  LT (xn h) fun r3 =>
  LT (pN h 5 8) fun h2 =>
  G (xc h2 r3 ≠ 99) <|
  BN (X5_init_f r3 h2) fun _ h5 =>
  G (xc h5 a0 = 9) <|
  LT (pR h5 a0 0 r3) fun h7 =>
  LT (xn h7) fun r9 =>
  LT (pN h7 3 3) fun h8 =>
  G (xc h8 r9 ≠ 99) <|
  BN (X3_init_f r9 h8) fun _ h11 =>
  G (xc h11 a0 = 9) <|
  LT (pR h11 a0 1 r9) fun h13 =>
  LT (xn h13) fun r15 =>
  LT (pN h13 3 3) fun h14 =>
  G (xc h14 r15 ≠ 99) <|
  BN (X3_init_f r15 h14) fun _ h17 =>
  G (xc h17 a0 = 9) <|
  LT (pR h17 a0 2 r15) fun h19 =>
  LT (xn h19) fun r22 =>
  LT (pN h19 22 (nI 101).toNatClampNeg) fun h21 =>
  G (xc h21 a0 = 9) <|
  LT (pR h21 a0 3 r22) fun h24 =>
  LT (xn h24) fun r26 =>
  LT (pN h24 4 2) fun h25 =>
  G (xc h25 r26 ≠ 99) <|
  BN (X4_init_f r26 (nI 3) h25) fun _ h28 =>
  G (xc h28 a0 = 9) <|
  LT (pR h28 a0 4 r26) fun h30 =>
  LT (xn h30) fun r32 =>
  LT (pN h30 4 2) fun h31 =>
  G (xc h31 r32 ≠ 99) <|
  BN (X4_init_f r32 (nI 3) h31) fun _ h34 =>
  G (xc h34 a0 = 9) <|
  LT (pR h34 a0 5 r32) fun h36 =>
  LT (xn h36) fun r38 =>
  LT (pN h36 4 2) fun h37 =>
  G (xc h37 r38 ≠ 99) <|
  BN (X4_init_f r38 (nI 3) h37) fun _ h40 =>
  G (xc h40 a0 = 9) <|
  LT (pR h40 a0 6 r38) fun h42 =>
  LT (xn h42) fun r44 =>
  LT (pN h42 4 2) fun h43 =>
  G (xc h43 r44 ≠ 99) <|
  BN (X4_init_f r44 (nI 0) h43) fun _ h46 =>
  G (xc h46 a0 = 9) <|
  LT (pR h46 a0 7 r44) fun h48 =>
  G (xc h48 a0 = 9) <|
  LT (pI h48 a0 10 (-1)) fun h50 =>
  G (xc h50 a0 = 9) <|
  LT (pI h50 a0 11 (-1)) fun h52 =>
  G (xc h52 a0 = 9) <|
  LT (pI h52 a0 12 (-1)) fun h54 =>
  G (xc h54 a0 = 9) <|
  LT (xn h54) fun r57 =>
  LT (pN h54 8 7) fun h56 =>
  G (xc h56 r57 ≠ 99) <|
  BN (X8_init_f r57 h56) fun _ h59 =>
  G (xc h59 (xR h54 a0 3) = 22) <|
  G (gx (nI 0) (xz h59 (xR h54 a0 3))) <|
  G (xc h59 r57 = 8) <|
  LT (pR h59 (xR h54 a0 3) (nI 0).toNatClampNeg r57) fun h62 =>
  LT (xn h62) fun r65 =>
  LT (pN h62 2 10) fun h64 =>
  G (xc h64 a0 = 9) <|
  G (xc h64 r65 ≠ 99) <|
  BN (X2_init_f r65 a1 (xR h64 a0 1) h64) fun _ h68 =>
  G (xc h68 a0 = 9) <|
  LT (pR h68 a0 8 r65) fun h70 =>
  LT (xn h70) fun r72 =>
  LT (pN h70 7 5) fun h71 =>
  G (xc h71 a0 = 9) <|
  G (xc h71 (xR h71 a0 3) = 22) <|
  G (gx (nI 0) (xz h71 (xR h71 a0 3))) <|
  G (xc h71 r72 ≠ 99) <|
  BN (X7_init_f r72 a1 (xR h71 (xR h71 a0 3) (nI 0).toNatClampNeg) (xR h71 a0 1) h71) fun _ h77 =>
  G (xc h77 a0 = 9) <|
  LT (pR h77 a0 9 r72) fun h79 =>
  some ((), h79)
theorem jX9_init (x : CT) (a0 : Nat) (a1 : Nat) (h : AH) : J x qX9_init ZV 0 [(0, rv (zx x) a0), (1, rv (zx x) a1)] [] h (X9_init_f a0 a1 h) := by
  unfold X9_init_f
  refine J_aload_n 0 dX9_init_0 rv_is rfl ?_
  refine J_G (fun g1 => ?_)
  refine J_objInit kw_2_70 kw_1_35 kw_1_36 (by decide) dX9_init_1 g1 ?_
  refine J_aload_n 0 dX9_init_4 rv_is rfl ?_
  refine J_new kc_5 kw_2_71 kw_2_72 kw_1_8 dX9_init_5 ?_
  refine J_LTr (fun r3 => ?_)
  refine J_LTh (fun h2 => ?_)
  refine J_dup dX9_init_8 rv_cat ?_
  refine J_G (fun g4 => ?_)
  refine J.callIN (n := 0) (As := []) (ctX5_init (lx x) (wx x) r3 h2) kw_2_75 kn_1 kw_2_74 kw_1_8 (by decide +kernel) rfl (by decide) (by simp [rv_cat, cat_I, cat_L, cat_S]) rfl dX9_init_9 g4 (fun _ h5 => ?_)
  show J x _ _ 12 _ [rv (zx x) r3, rv (zx x) a0] h5 _
  refine J_G (fun g6 => ?_)
  refine J_putR kc_9 0 (by decide) rfl rfl (Or.inl ⟨_, rfl⟩) (Or.inr ⟨rfl, rfl, rfl⟩) kw_2_233 dX9_init_12 g6 ?_
  refine J_LTh (fun h7 => ?_)
  refine J_aload_n 0 dX9_init_15 rv_is rfl ?_
  refine J_new kc_3 kw_2_105 kw_2_106 kw_1_9 dX9_init_16 ?_
  refine J_LTr (fun r9 => ?_)
  refine J_LTh (fun h8 => ?_)
  refine J_dup dX9_init_19 rv_cat ?_
  refine J_G (fun g10 => ?_)
  refine J.callIN (n := 0) (As := []) (ctX3_init (lx x) (wx x) r9 h8) kw_2_109 kn_2 kw_2_108 kw_1_9 (by decide +kernel) rfl (by decide) (by simp [rv_cat, cat_I, cat_L, cat_S]) rfl dX9_init_20 g10 (fun _ h11 => ?_)
  show J x _ _ 23 _ [rv (zx x) r9, rv (zx x) a0] h11 _
  refine J_G (fun g12 => ?_)
  refine J_putR kc_9 1 (by decide) rfl rfl (Or.inl ⟨_, rfl⟩) (Or.inr ⟨rfl, rfl, rfl⟩) kw_2_235 dX9_init_23 g12 ?_
  refine J_LTh (fun h13 => ?_)
  refine J_aload_n 0 dX9_init_26 rv_is rfl ?_
  refine J_new kc_3 kw_2_105 kw_2_106 kw_1_9 dX9_init_27 ?_
  refine J_LTr (fun r15 => ?_)
  refine J_LTh (fun h14 => ?_)
  refine J_dup dX9_init_30 rv_cat ?_
  refine J_G (fun g16 => ?_)
  refine J.callIN (n := 0) (As := []) (ctX3_init (lx x) (wx x) r15 h14) kw_2_109 kn_2 kw_2_108 kw_1_9 (by decide +kernel) rfl (by decide) (by simp [rv_cat, cat_I, cat_L, cat_S]) rfl dX9_init_31 g16 (fun _ h17 => ?_)
  show J x _ _ 34 _ [rv (zx x) r15, rv (zx x) a0] h17 _
  refine J_G (fun g18 => ?_)
  refine J_putR kc_9 2 (by decide) rfl rfl (Or.inl ⟨_, rfl⟩) (Or.inr ⟨rfl, rfl, rfl⟩) kw_2_236 dX9_init_34 g18 ?_
  refine J_LTh (fun h19 => ?_)
  refine J_aload_n 0 dX9_init_37 rv_is rfl ?_
  refine J_bipush (v := nI 101) dX9_init_38 rfl ?_
  refine J_anew (t := 22) (t0 := 6) (by decide) (by decide) (fun _ => rfl) (by decide) kw_2_130 dX9_init_40 (by decide) ?_
  refine J_LTr (fun r22 => ?_)
  refine J_LTh (fun h21 => ?_)
  refine J_G (fun g23 => ?_)
  refine J_putR kc_9 3 (by decide) rfl rfl (Or.inr ⟨_, rfl⟩) (Or.inr ⟨rfl, rfl, rfl⟩) kw_2_237 dX9_init_43 g23 ?_
  refine J_LTh (fun h24 => ?_)
  refine J_aload_n 0 dX9_init_46 rv_is rfl ?_
  refine J_new kc_4 kw_2_132 kw_2_49 kw_1_6 dX9_init_47 ?_
  refine J_LTr (fun r26 => ?_)
  refine J_LTh (fun h25 => ?_)
  refine J_dup dX9_init_50 rv_cat ?_
  refine J_iconst (v := nI 3) dX9_init_51 rfl ?_
  refine J_G (fun g27 => ?_)
  refine J.callI (n := 1) (As := [.int (nI 3)]) (ctX4_init (lx x) (wx x) r26 (nI 3) h25) kw_2_52 kw_2_133 kw_2_51 kw_1_6 (by decide +kernel) rfl (by decide) (by simp [rv_cat, cat_I, cat_L, cat_S]) rfl dX9_init_52 g27 (fun _ h28 => ?_)
  show J x _ _ 55 _ [rv (zx x) r26, rv (zx x) a0] h28 _
  refine J_G (fun g29 => ?_)
  refine J_putR kc_9 4 (by decide) rfl rfl (Or.inl ⟨_, rfl⟩) (Or.inr ⟨rfl, rfl, rfl⟩) kw_2_238 dX9_init_55 g29 ?_
  refine J_LTh (fun h30 => ?_)
  refine J_aload_n 0 dX9_init_58 rv_is rfl ?_
  refine J_new kc_4 kw_2_132 kw_2_49 kw_1_6 dX9_init_59 ?_
  refine J_LTr (fun r32 => ?_)
  refine J_LTh (fun h31 => ?_)
  refine J_dup dX9_init_62 rv_cat ?_
  refine J_iconst (v := nI 3) dX9_init_63 rfl ?_
  refine J_G (fun g33 => ?_)
  refine J.callI (n := 1) (As := [.int (nI 3)]) (ctX4_init (lx x) (wx x) r32 (nI 3) h31) kw_2_52 kw_2_133 kw_2_51 kw_1_6 (by decide +kernel) rfl (by decide) (by simp [rv_cat, cat_I, cat_L, cat_S]) rfl dX9_init_64 g33 (fun _ h34 => ?_)
  show J x _ _ 67 _ [rv (zx x) r32, rv (zx x) a0] h34 _
  refine J_G (fun g35 => ?_)
  refine J_putR kc_9 5 (by decide) rfl rfl (Or.inl ⟨_, rfl⟩) (Or.inr ⟨rfl, rfl, rfl⟩) kw_2_239 dX9_init_67 g35 ?_
  refine J_LTh (fun h36 => ?_)
  refine J_aload_n 0 dX9_init_70 rv_is rfl ?_
  refine J_new kc_4 kw_2_132 kw_2_49 kw_1_6 dX9_init_71 ?_
  refine J_LTr (fun r38 => ?_)
  refine J_LTh (fun h37 => ?_)
  refine J_dup dX9_init_74 rv_cat ?_
  refine J_iconst (v := nI 3) dX9_init_75 rfl ?_
  refine J_G (fun g39 => ?_)
  refine J.callI (n := 1) (As := [.int (nI 3)]) (ctX4_init (lx x) (wx x) r38 (nI 3) h37) kw_2_52 kw_2_133 kw_2_51 kw_1_6 (by decide +kernel) rfl (by decide) (by simp [rv_cat, cat_I, cat_L, cat_S]) rfl dX9_init_76 g39 (fun _ h40 => ?_)
  show J x _ _ 79 _ [rv (zx x) r38, rv (zx x) a0] h40 _
  refine J_G (fun g41 => ?_)
  refine J_putR kc_9 6 (by decide) rfl rfl (Or.inl ⟨_, rfl⟩) (Or.inr ⟨rfl, rfl, rfl⟩) kw_3_1 dX9_init_79 g41 ?_
  refine J_LTh (fun h42 => ?_)
  refine J_aload_n 0 dX9_init_82 rv_is rfl ?_
  refine J_new kc_4 kw_2_132 kw_2_49 kw_1_6 dX9_init_83 ?_
  refine J_LTr (fun r44 => ?_)
  refine J_LTh (fun h43 => ?_)
  refine J_dup dX9_init_86 rv_cat ?_
  refine J_iconst (v := nI 0) dX9_init_87 rfl ?_
  refine J_G (fun g45 => ?_)
  refine J.callI (n := 1) (As := [.int (nI 0)]) (ctX4_init (lx x) (wx x) r44 (nI 0) h43) kw_2_52 kw_2_133 kw_2_51 kw_1_6 (by decide +kernel) rfl (by decide) (by simp [rv_cat, cat_I, cat_L, cat_S]) rfl dX9_init_88 g45 (fun _ h46 => ?_)
  show J x _ _ 91 _ [rv (zx x) r44, rv (zx x) a0] h46 _
  refine J_G (fun g47 => ?_)
  refine J_putR kc_9 7 (by decide) rfl rfl (Or.inl ⟨_, rfl⟩) (Or.inr ⟨rfl, rfl, rfl⟩) kw_3_3 dX9_init_91 g47 ?_
  refine J_LTh (fun h48 => ?_)
  refine J_aload_n 0 dX9_init_94 rv_is rfl ?_
  refine J_iconst (v := (-1)) dX9_init_95 rfl ?_
  refine J_G (fun g49 => ?_)
  refine J_putI kc_9 10 (by decide) rfl rfl rfl rfl (Or.inl rfl) kw_3_7 dX9_init_96 g49 ?_
  refine J_LTh (fun h50 => ?_)
  refine J_aload_n 0 dX9_init_99 rv_is rfl ?_
  refine J_iconst (v := (-1)) dX9_init_100 rfl ?_
  refine J_G (fun g51 => ?_)
  refine J_putI kc_9 11 (by decide) rfl rfl rfl rfl (Or.inl rfl) kw_3_9 dX9_init_101 g51 ?_
  refine J_LTh (fun h52 => ?_)
  refine J_aload_n 0 dX9_init_104 rv_is rfl ?_
  refine J_iconst (v := (-1)) dX9_init_105 rfl ?_
  refine J_G (fun g53 => ?_)
  refine J_putI kc_9 12 (by decide) rfl rfl rfl rfl (Or.inl rfl) kw_3_11 dX9_init_106 g53 ?_
  refine J_LTh (fun h54 => ?_)
  refine J_aload_n 0 dX9_init_109 rv_is rfl ?_
  refine J_G (fun g55 => ?_)
  refine J_getR kc_9 3 (by decide) rfl rfl kw_2_237 dX9_init_110 g55 ?_
  refine J_iconst (v := nI 0) dX9_init_113 rfl ?_
  refine J_new kc_8 kw_2_130 kw_2_134 kw_1_10 dX9_init_114 ?_
  refine J_LTr (fun r57 => ?_)
  refine J_LTh (fun h56 => ?_)
  refine J_dup dX9_init_117 rv_cat ?_
  refine J_G (fun g58 => ?_)
  refine J.callIN (n := 0) (As := []) (ctX8_init (lx x) (wx x) r57 h56) kw_2_137 kn_3 kw_2_136 kw_1_10 (by decide +kernel) rfl (by decide) (by simp [rv_cat, cat_I, cat_L, cat_S]) rfl dX9_init_118 g58 (fun _ h59 => ?_)
  show J x _ _ 121 _ [rv (zx x) r57, .int (nI 0), rv (zx x) (xR h54 a0 3)] h59 _
  refine J_G (fun g60 => ?_)
  refine J_G (fun g61 => ?_)
  refine J_G (fun g63 => ?_)
  refine J_aast kc_8 (t := 22) (t0 := 6) (by decide) (by decide) (fun _ => rfl) dX9_init_121 g60 g61 g63 ?_
  refine J_LTh (fun h62 => ?_)
  refine J_aload_n 0 dX9_init_122 rv_is rfl ?_
  refine J_new kc_2 kw_2_168 kw_2_169 kw_1_11 dX9_init_123 ?_
  refine J_LTr (fun r65 => ?_)
  refine J_LTh (fun h64 => ?_)
  refine J_dup dX9_init_126 rv_cat ?_
  refine J_aload_n 1 dX9_init_127 rv_is rfl ?_
  refine J_aload_n 0 dX9_init_128 rv_is rfl ?_
  refine J_G (fun g66 => ?_)
  refine J_getR kc_9 1 (by decide) rfl rfl kw_2_235 dX9_init_129 g66 ?_
  refine J_G (fun g67 => ?_)
  refine J.callI (n := 2) (As := [rv (zx x) a1, rv (zx x) (xR h64 a0 1)]) (ctX2_init (lx x) (wx x) r65 a1 (xR h64 a0 1) h64) kw_2_172 kw_2_170 kw_2_171 kw_1_11 (by decide +kernel) rfl (by decide) (by simp [rv_cat, cat_I, cat_L, cat_S]) rfl dX9_init_132 g67 (fun _ h68 => ?_)
  show J x _ _ 135 _ [rv (zx x) r65, rv (zx x) a0] h68 _
  refine J_G (fun g69 => ?_)
  refine J_putR kc_9 8 (by decide) rfl rfl (Or.inl ⟨_, rfl⟩) (Or.inr ⟨rfl, rfl, rfl⟩) kw_3_4 dX9_init_135 g69 ?_
  refine J_LTh (fun h70 => ?_)
  refine J_aload_n 0 dX9_init_138 rv_is rfl ?_
  refine J_new kc_7 kw_2_210 kw_2_211 kw_1_12 dX9_init_139 ?_
  refine J_LTr (fun r72 => ?_)
  refine J_LTh (fun h71 => ?_)
  refine J_dup dX9_init_142 rv_cat ?_
  refine J_aload_n 1 dX9_init_143 rv_is rfl ?_
  refine J_aload_n 0 dX9_init_144 rv_is rfl ?_
  refine J_G (fun g73 => ?_)
  refine J_getR kc_9 3 (by decide) rfl rfl kw_2_237 dX9_init_145 g73 ?_
  refine J_iconst (v := nI 0) dX9_init_148 rfl ?_
  refine J_G (fun g74 => ?_)
  refine J_G (fun g75 => ?_)
  refine J_aald (t := 22) (t0 := 6) (Cn := RX8) (by decide) (by decide) (fun _ => rfl) dX9_init_149 g74 g75 ?_
  refine J_aload_n 0 dX9_init_150 rv_is rfl ?_
  refine J_getR kc_9 1 (by decide) rfl rfl kw_2_235 dX9_init_151 g73 ?_
  refine J_G (fun g76 => ?_)
  refine J.callI (n := 3) (As := [rv (zx x) a1, rv (zx x) (xR h71 (xR h71 a0 3) (nI 0).toNatClampNeg), rv (zx x) (xR h71 a0 1)]) (ctX7_init (lx x) (wx x) r72 a1 (xR h71 (xR h71 a0 3) (nI 0).toNatClampNeg) (xR h71 a0 1) h71) kw_2_214 kw_2_212 kw_2_213 kw_1_12 (by decide +kernel) rfl (by decide) (by simp [rv_cat, cat_I, cat_L, cat_S]) rfl dX9_init_154 g76 (fun _ h77 => ?_)
  show J x _ _ 157 _ [rv (zx x) r72, rv (zx x) a0] h77 _
  refine J_G (fun g78 => ?_)
  refine J_putR kc_9 9 (by decide) rfl rfl (Or.inl ⟨_, rfl⟩) (Or.inr ⟨rfl, rfl, rfl⟩) kw_3_5 dX9_init_157 g78 ?_
  refine J_LTh (fun h79 => ?_)
  exact J_vret dX9_init_160
theorem ctX9_init (l : Launch) (w : WT) (a0 : Nat) (a1 : Nat) (h : AH) : CM l w yX9_init cX9_init 2 none 2 43 KV [rv (w.1) a0, rv (w.1) a1] h (X9_init_f a0 a1 h) :=
  CM.of (by decide +kernel) (by simp [lg_sl, rv_cat, cat_I, cat_L, cat_S]) (lv := [(0, rv (w.1) a0), (1, rv (w.1) a1)]) (by simp [lv_args, rv_cat, cat_I, cat_L, cat_S]) (fun x hx => by subst hx; exact jX9_init x a0 a1 h)
-- FallTrials$Trials.forget()V
abbrev qX9_forget : MT := (cX9_forget, RX9, "forget", none, 1, 20, 1)
def X9_forget_f (a0 : Nat) (h : AH) : Option (Unit × AH) :=
  G (xc h a0 = 9) <|
  G (xc h (xR h a0 0) = 5) <|
  BN (X5_beginAnew_f (xR h a0 0) h) fun _ h3 =>
  G (xc h3 a0 = 9) <|
  LT (pI h3 a0 10 (-1)) fun h5 =>
  G (xc h5 a0 = 9) <|
  LT (pI h5 a0 11 (-1)) fun h7 =>
  G (xc h7 a0 = 9) <|
  LT (pI h7 a0 12 (-1)) fun h9 =>
  G (xc h9 a0 = 9) <|
  G (xc h9 (xR h9 a0 5) = 4) <|
  BN (X4_wipe_f (xR h9 a0 5) h9) fun _ h12 =>
  G (xc h12 a0 = 9) <|
  G (xc h12 (xR h12 a0 6) = 4) <|
  BN (X4_wipe_f (xR h12 a0 6) h12) fun _ h15 =>
  some ((), h15)
theorem jX9_forget (x : CT) (a0 : Nat) (h : AH) : J x qX9_forget ZV 0 [(0, rv (zx x) a0)] [] h (X9_forget_f a0 h) := by
  unfold X9_forget_f
  refine J_aload_n 0 dX9_forget_0 rv_is rfl ?_
  refine J_G (fun g1 => ?_)
  refine J_getR kc_9 0 (by decide) rfl rfl kw_2_233 dX9_forget_1 g1 ?_
  refine J_G (fun g2 => ?_)
  refine J.callV (n := 0) (As := []) kc_5 (ctX5_beginAnew (lx x) (wx x) (xR h a0 0) h) kw_4_60 kw_4_57 kw_4_58 kw_4_59 kw_1_8 (by decide +kernel) rfl (by decide) (Nat.zero_le _) rfl dX9_forget_4 g2 (fun _ h3 => ?_)
  show J x _ _ 7 _ [] h3 _
  refine J_aload_n 0 dX9_forget_7 rv_is rfl ?_
  refine J_iconst (v := (-1)) dX9_forget_8 rfl ?_
  refine J_G (fun g4 => ?_)
  refine J_putI kc_9 10 (by decide) rfl rfl rfl rfl (Or.inl rfl) kw_3_7 dX9_forget_9 g4 ?_
  refine J_LTh (fun h5 => ?_)
  refine J_aload_n 0 dX9_forget_12 rv_is rfl ?_
  refine J_iconst (v := (-1)) dX9_forget_13 rfl ?_
  refine J_G (fun g6 => ?_)
  refine J_putI kc_9 11 (by decide) rfl rfl rfl rfl (Or.inl rfl) kw_3_9 dX9_forget_14 g6 ?_
  refine J_LTh (fun h7 => ?_)
  refine J_aload_n 0 dX9_forget_17 rv_is rfl ?_
  refine J_iconst (v := (-1)) dX9_forget_18 rfl ?_
  refine J_G (fun g8 => ?_)
  refine J_putI kc_9 12 (by decide) rfl rfl rfl rfl (Or.inl rfl) kw_3_11 dX9_forget_19 g8 ?_
  refine J_LTh (fun h9 => ?_)
  refine J_aload_n 0 dX9_forget_22 rv_is rfl ?_
  refine J_G (fun g10 => ?_)
  refine J_getR kc_9 5 (by decide) rfl rfl kw_2_239 dX9_forget_23 g10 ?_
  refine J_G (fun g11 => ?_)
  refine J.callV (n := 0) (As := []) kc_4 (ctX4_wipe (lx x) (wx x) (xR h9 a0 5) h9) kw_4_52 kw_4_61 kw_4_50 kw_4_51 kw_1_6 (by decide +kernel) rfl (by decide) (Nat.zero_le _) rfl dX9_forget_26 g11 (fun _ h12 => ?_)
  show J x _ _ 29 _ [] h12 _
  refine J_aload_n 0 dX9_forget_29 rv_is rfl ?_
  refine J_G (fun g13 => ?_)
  refine J_getR kc_9 6 (by decide) rfl rfl kw_3_1 dX9_forget_30 g13 ?_
  refine J_G (fun g14 => ?_)
  refine J.callV (n := 0) (As := []) kc_4 (ctX4_wipe (lx x) (wx x) (xR h12 a0 6) h12) kw_4_52 kw_4_61 kw_4_50 kw_4_51 kw_1_6 (by decide +kernel) rfl (by decide) (Nat.zero_le _) rfl dX9_forget_33 g14 (fun _ h15 => ?_)
  show J x _ _ 36 _ [] h15 _
  exact J_vret dX9_forget_36
theorem ctX9_forget (l : Launch) (w : WT) (a0 : Nat) (h : AH) : CM l w yX9_forget cX9_forget 1 none 1 20 KV [rv (w.1) a0] h (X9_forget_f a0 h) :=
  CM.of (by decide +kernel) (by simp [lg_sl, rv_cat, cat_I, cat_L, cat_S]) (lv := [(0, rv (w.1) a0)]) (by simp [lv_args, rv_cat, cat_I, cat_L, cat_S]) (fun x hx => by subst hx; exact jX9_forget x a0 h)
-- FallTrials$Trials.formula(I)LFallTrials$Trace;
abbrev qX9_formula : MT := (cX9_formula, RX9, "formula", (some (.object "FallTrials$Trace")), 2, 40, 2)
def X9_formula_B13 (a0 : Nat) (h : AH) : Option (Nat × AH) :=
  G (xc h a0 = 9) <|
  G (xc h (xR h a0 3) = 22) <|
  G (gx (nI 0) (xz h (xR h a0 3))) <|
  some (xR h (xR h a0 3) (nI 0).toNatClampNeg, h)
theorem jX9_formula_B13 (x : CT) (a0 : Nat) (h : AH) : J x qX9_formula (ZR (zx x)) 13 [(0, rv (zx x) a0)] [] h (X9_formula_B13 a0 h) := by
  unfold X9_formula_B13
  refine J_aload_n 0 dX9_formula_13 rv_is rfl ?_
  refine J_G (fun g1 => ?_)
  refine J_getR kc_9 3 (by decide) rfl rfl kw_2_237 dX9_formula_14 g1 ?_
  refine J_iconst (v := nI 0) dX9_formula_17 rfl ?_
  refine J_G (fun g2 => ?_)
  refine J_G (fun g3 => ?_)
  refine J_aald (t := 22) (t0 := 6) (Cn := RX8) (by decide) (by decide) (fun _ => rfl) dX9_formula_18 g2 g3 ?_
  exact J_aret (Or.inl ⟨_, rfl⟩) dX9_formula_19
def X9_formula_B42 (a0 : Nat) (i1 : Int32) (h : AH) : Option (Nat × AH) :=
  G (xc h a0 = 9) <|
  G (xc h (xR h a0 3) = 22) <|
  G (gx i1 (xz h (xR h a0 3))) <|
  some (xR h (xR h a0 3) i1.toNatClampNeg, h)
theorem jX9_formula_B42 (x : CT) (a0 : Nat) (i1 : Int32) (h : AH) : J x qX9_formula (ZR (zx x)) 42 [(0, rv (zx x) a0), (1, .int i1)] [] h (X9_formula_B42 a0 i1 h) := by
  unfold X9_formula_B42
  refine J_aload_n 0 dX9_formula_42 rv_is rfl ?_
  refine J_G (fun g1 => ?_)
  refine J_getR kc_9 3 (by decide) rfl rfl kw_2_237 dX9_formula_43 g1 ?_
  refine J_iload_n 1 dX9_formula_46 rfl ?_
  refine J_G (fun g2 => ?_)
  refine J_G (fun g3 => ?_)
  refine J_aald (t := 22) (t0 := 6) (Cn := RX8) (by decide) (by decide) (fun _ => rfl) dX9_formula_47 g2 g3 ?_
  exact J_aret (Or.inl ⟨_, rfl⟩) dX9_formula_48
def X9_formula_f (a0 : Nat) (i1 : Int32) (h : AH) : Option (Nat × AH) :=
  if i1 < 0 then (
    X9_formula_B13 a0 h
  ) else (
    G (xc h a0 = 9) <|
    G (xc h (xR h a0 3) = 22) <|
    if i1 < (nI (xz h (xR h a0 3))) then (
      G (xc h a0 = 9) <|
      G (xc h (xR h a0 3) = 22) <|
      G (gx i1 (xz h (xR h a0 3))) <|
      if (xR h (xR h a0 3) i1.toNatClampNeg) = 0 then (
        G (xc h a0 = 9) <|
        LT (xn h) fun r8 =>
        LT (pN h 8 7) fun h7 =>
        G (xc h7 r8 ≠ 99) <|
        BN (X8_init_f r8 h7) fun _ h10 =>
        G (xc h10 (xR h a0 3) = 22) <|
        G (gx i1 (xz h10 (xR h a0 3))) <|
        G (xc h10 r8 = 8) <|
        LT (pR h10 (xR h a0 3) i1.toNatClampNeg r8) fun h13 =>
        X9_formula_B42 a0 i1 h13
      ) else (
        X9_formula_B42 a0 i1 h
      )
    ) else (
      X9_formula_B13 a0 h
    )
  )
theorem jX9_formula (x : CT) (a0 : Nat) (i1 : Int32) (h : AH) : J x qX9_formula (ZR (zx x)) 0 [(0, rv (zx x) a0), (1, .int i1)] [] h (X9_formula_f a0 i1 h) := by
  unfold X9_formula_f
  refine J_iload_n 1 dX9_formula_0 rfl ?_
  refine J_if_lt (tgt := 13) dX9_formula_1 rfl ?_ ?_
  · exact J_sub [0] rfl (jX9_formula_B13 x a0 h)
  · refine J_iload_n 1 dX9_formula_4 rfl ?_
    refine J_aload_n 0 dX9_formula_5 rv_is rfl ?_
    refine J_G (fun g1 => ?_)
    refine J_getR kc_9 3 (by decide) rfl rfl kw_2_237 dX9_formula_6 g1 ?_
    refine J_G (fun g2 => ?_)
    refine J_alenR (t := 22) (t0 := 6) (Cn := RX8) (by decide) (by decide) (fun _ => rfl) dX9_formula_9 g2 ?_
    refine J_icmp_lt (tgt := 20) dX9_formula_10 rfl ?_ ?_
    · refine J_aload_n 0 dX9_formula_20 rv_is rfl ?_
      refine J_G (fun g3 => ?_)
      refine J_getR kc_9 3 (by decide) rfl rfl kw_2_237 dX9_formula_21 g3 ?_
      refine J_iload_n 1 dX9_formula_24 rfl ?_
      refine J_G (fun g4 => ?_)
      refine J_G (fun g5 => ?_)
      refine J_aald (t := 22) (t0 := 6) (Cn := RX8) (by decide) (by decide) (fun _ => rfl) dX9_formula_25 g4 g5 ?_
      refine J_ifnonnull (tgt := 42) dX9_formula_26 rfl ?_ ?_
      · exact (jX9_formula_B42 x a0 i1 h)
      · refine J_aload_n 0 dX9_formula_29 rv_is rfl ?_
        refine J_G (fun g6 => ?_)
        refine J_getR kc_9 3 (by decide) rfl rfl kw_2_237 dX9_formula_30 g6 ?_
        refine J_iload_n 1 dX9_formula_33 rfl ?_
        refine J_new kc_8 kw_2_130 kw_2_134 kw_1_10 dX9_formula_34 ?_
        refine J_LTr (fun r8 => ?_)
        refine J_LTh (fun h7 => ?_)
        refine J_dup dX9_formula_37 rv_cat ?_
        refine J_G (fun g9 => ?_)
        refine J.callIN (n := 0) (As := []) (ctX8_init (lx x) (wx x) r8 h7) kw_2_137 kn_3 kw_2_136 kw_1_10 (by decide +kernel) rfl (by decide) (by simp [rv_cat, cat_I, cat_L, cat_S]) rfl dX9_formula_38 g9 (fun _ h10 => ?_)
        show J x _ _ 41 _ [rv (zx x) r8, .int i1, rv (zx x) (xR h a0 3)] h10 _
        refine J_G (fun g11 => ?_)
        refine J_G (fun g12 => ?_)
        refine J_G (fun g14 => ?_)
        refine J_aast kc_8 (t := 22) (t0 := 6) (by decide) (by decide) (fun _ => rfl) dX9_formula_41 g11 g12 g14 ?_
        refine J_LTh (fun h13 => ?_)
        exact (jX9_formula_B42 x a0 i1 h13)
    · exact J_sub [0] rfl (jX9_formula_B13 x a0 h)
theorem ctX9_formula (l : Launch) (w : WT) (a0 : Nat) (i1 : Int32) (h : AH) : CM l w yX9_formula cX9_formula 2 (some (.object "FallTrials$Trace")) 2 40 (KR (w.1)) [rv (w.1) a0, .int i1] h (X9_formula_f a0 i1 h) :=
  CM.of (by decide +kernel) (by simp [lg_sl, rv_cat, cat_I, cat_L, cat_S]) (lv := [(0, rv (w.1) a0), (1, .int i1)]) (by simp [lv_args, rv_cat, cat_I, cat_L, cat_S]) (fun x hx => by subst hx; exact jX9_formula x a0 i1 h)
-- FallTrials$Works.<init>(LFallTrials$Book;)V
abbrev qX10_init : MT := (cX10_init, RX10, "<init>", none, 1, 20, 2)
def X10_init_f (a0 : Nat) (a1 : Nat) (h : AH) : Option (Unit × AH) :=
  G (xc h a0 ≠ 99) <|
  G (xc h a0 = 10) <|
  LT (pR h a0 0 a1) fun h3 =>
  some ((), h3)
theorem jX10_init (x : CT) (a0 : Nat) (a1 : Nat) (h : AH) : J x qX10_init ZV 0 [(0, rv (zx x) a0), (1, rv (zx x) a1)] [] h (X10_init_f a0 a1 h) := by
  unfold X10_init_f
  refine J_aload_n 0 dX10_init_0 rv_is rfl ?_
  refine J_G (fun g1 => ?_)
  refine J_objInit kw_2_9 kw_1_35 kw_1_36 (by decide) dX10_init_1 g1 ?_
  refine J_aload_n 0 dX10_init_4 rv_is rfl ?_
  refine J_aload_n 1 dX10_init_5 rv_is rfl ?_
  refine J_G (fun g2 => ?_)
  refine J_putR kc_10 0 (by decide) rfl rfl (Or.inl ⟨_, rfl⟩) (Or.inl rfl) kw_2_10 dX10_init_6 g2 ?_
  refine J_LTh (fun h3 => ?_)
  exact J_vret dX10_init_9
theorem ctX10_init (l : Launch) (w : WT) (a0 : Nat) (a1 : Nat) (h : AH) : CM l w yX10_init cX10_init 2 none 1 20 KV [rv (w.1) a0, rv (w.1) a1] h (X10_init_f a0 a1 h) :=
  CM.of (by decide +kernel) (by simp [lg_sl, rv_cat, cat_I, cat_L, cat_S]) (lv := [(0, rv (w.1) a0), (1, rv (w.1) a1)]) (by simp [lv_args, rv_cat, cat_I, cat_L, cat_S]) (fun x hx => by subst hx; exact jX10_init x a0 a1 h)
-- FallTrials$Works.begin(LFallTrials$Book;)V
abbrev qX10_begin : MT := (cX10_begin, RX10, "begin", none, 0, 0, 2)
def X10_begin_f (a0 : Nat) (a1 : Nat) (h : AH) : Option (Unit × AH) :=
  G (xc h a0 = 10) <|
  LT (pR h a0 0 a1) fun h2 =>
  G (xc h2 a0 = 10) <|
  LT (pI h2 a0 1 (nI 4)) fun h4 =>
  G (xc h4 a1 = 0) <|
  G (xc h4 a0 = 10) <|
  LT (pI h4 a0 2 (((nI 1) <<< ((xI h4 a1 5) &&& 31)) - (nI 1))) fun h7 =>
  G (xc h7 a1 = 0) <|
  G (xc h7 a0 = 10) <|
  LT (pI h7 a0 3 (xI h7 a1 6)) fun h10 =>
  G (xc h10 a0 = 10) <|
  LT (pI h10 a0 4 (nI 0)) fun h12 =>
  G (xc h12 a0 = 10) <|
  LT (pI h12 a0 5 (nI 0)) fun h14 =>
  some ((), h14)
theorem jX10_begin (x : CT) (a0 : Nat) (a1 : Nat) (h : AH) : J x qX10_begin ZV 0 [(0, rv (zx x) a0), (1, rv (zx x) a1)] [] h (X10_begin_f a0 a1 h) := by
  unfold X10_begin_f
  refine J_aload_n 0 dX10_begin_0 rv_is rfl ?_
  refine J_aload_n 1 dX10_begin_1 rv_is rfl ?_
  refine J_G (fun g1 => ?_)
  refine J_putR kc_10 0 (by decide) rfl rfl (Or.inl ⟨_, rfl⟩) (Or.inl rfl) kw_2_10 dX10_begin_2 g1 ?_
  refine J_LTh (fun h2 => ?_)
  refine J_aload_n 0 dX10_begin_5 rv_is rfl ?_
  refine J_iconst (v := nI 4) dX10_begin_6 rfl ?_
  refine J_G (fun g3 => ?_)
  refine J_putI kc_10 1 (by decide) rfl rfl rfl rfl (Or.inl rfl) kw_2_17 dX10_begin_7 g3 ?_
  refine J_LTh (fun h4 => ?_)
  refine J_aload_n 0 dX10_begin_10 rv_is rfl ?_
  refine J_iconst (v := nI 1) dX10_begin_11 rfl ?_
  refine J_aload_n 1 dX10_begin_12 rv_is rfl ?_
  refine J_G (fun g5 => ?_)
  refine J_getI kc_0 5 (by decide) rfl rfl kw_1_130 dX10_begin_13 g5 ?_
  refine J_ishl dX10_begin_16 ?_
  refine J_iconst (v := nI 1) dX10_begin_17 rfl ?_
  refine J_isub dX10_begin_18 ?_
  refine J_G (fun g6 => ?_)
  refine J_putI kc_10 2 (by decide) rfl rfl rfl rfl (Or.inl rfl) kw_2_23 dX10_begin_19 g6 ?_
  refine J_LTh (fun h7 => ?_)
  refine J_aload_n 0 dX10_begin_22 rv_is rfl ?_
  refine J_aload_n 1 dX10_begin_23 rv_is rfl ?_
  refine J_G (fun g8 => ?_)
  refine J_getI kc_0 6 (by decide) rfl rfl kw_1_134 dX10_begin_24 g8 ?_
  refine J_G (fun g9 => ?_)
  refine J_putI kc_10 3 (by decide) rfl rfl rfl rfl (Or.inl rfl) kw_2_29 dX10_begin_27 g9 ?_
  refine J_LTh (fun h10 => ?_)
  refine J_aload_n 0 dX10_begin_30 rv_is rfl ?_
  refine J_iconst (v := nI 0) dX10_begin_31 rfl ?_
  refine J_G (fun g11 => ?_)
  refine J_putI kc_10 4 (by decide) rfl rfl rfl rfl (Or.inl rfl) kw_2_33 dX10_begin_32 g11 ?_
  refine J_LTh (fun h12 => ?_)
  refine J_aload_n 0 dX10_begin_35 rv_is rfl ?_
  refine J_iconst (v := nI 0) dX10_begin_36 rfl ?_
  refine J_G (fun g13 => ?_)
  refine J_putI kc_10 5 (by decide) rfl rfl rfl rfl (Or.inl rfl) kw_2_34 dX10_begin_37 g13 ?_
  refine J_LTh (fun h14 => ?_)
  exact J_vret dX10_begin_40
theorem ctX10_begin (l : Launch) (w : WT) (a0 : Nat) (a1 : Nat) (h : AH) : CM l w yX10_begin cX10_begin 2 none 0 0 KV [rv (w.1) a0, rv (w.1) a1] h (X10_begin_f a0 a1 h) :=
  CM.of (by decide +kernel) (by simp [lg_sl, rv_cat, cat_I, cat_L, cat_S]) (lv := [(0, rv (w.1) a0), (1, rv (w.1) a1)]) (by simp [lv_args, rv_cat, cat_I, cat_L, cat_S]) (fun x hx => by subst hx; exact jX10_begin x a0 a1 h)
-- FallTrials$Works.isBare(I)Z
abbrev qX10_isBare : MT := (cX10_isBare, RX10, "isBare", (some .boolean), 0, 0, 2)
def X10_isBare_f (a0 : Nat) (i1 : Int32) (h : AH) : Option (Int32 × AH) :=
  G (xc h a0 = 10) <|
  if (((xI h a0 5) >>> (i1 &&& 31)) &&& (nI 1)) = 0 then (
    some (nI 0, h)
  ) else (
    some (nI 1, h)
  )
theorem jX10_isBare (x : CT) (a0 : Nat) (i1 : Int32) (h : AH) : J x qX10_isBare ZI 0 [(0, rv (zx x) a0), (1, .int i1)] [] h (X10_isBare_f a0 i1 h) := by
  unfold X10_isBare_f
  refine J_aload_n 0 dX10_isBare_0 rv_is rfl ?_
  refine J_G (fun g1 => ?_)
  refine J_getI kc_10 5 (by decide) rfl rfl kw_2_34 dX10_isBare_1 g1 ?_
  refine J_iload_n 1 dX10_isBare_4 rfl ?_
  refine J_ishr dX10_isBare_5 ?_
  refine J_iconst (v := nI 1) dX10_isBare_6 rfl ?_
  refine J_iand dX10_isBare_7 ?_
  refine J_if_eq (tgt := 15) dX10_isBare_8 rfl ?_ ?_
  · refine J_iconst (v := nI 0) dX10_isBare_15 rfl ?_
    exact J_zret dX10_isBare_16 (by decide)
  · refine J_iconst (v := nI 1) dX10_isBare_11 rfl ?_
    refine J_goto (tgt := 16) dX10_isBare_12 rfl ?_
    exact J_zret dX10_isBare_16 (by decide)
theorem ctX10_isBare (l : Launch) (w : WT) (a0 : Nat) (i1 : Int32) (h : AH) : CM l w yX10_isBare cX10_isBare 2 (some .boolean) 0 0 KI [rv (w.1) a0, .int i1] h (X10_isBare_f a0 i1 h) :=
  CM.of (by decide +kernel) (by simp [lg_sl, rv_cat, cat_I, cat_L, cat_S]) (lv := [(0, rv (w.1) a0), (1, .int i1)]) (by simp [lv_args, rv_cat, cat_I, cat_L, cat_S]) (fun x hx => by subst hx; exact jX10_isBare x a0 i1 h)
-- FallTrials$Works.isAgain(I)Z
abbrev qX10_isAgain : MT := (cX10_isAgain, RX10, "isAgain", (some .boolean), 0, 0, 2)
def X10_isAgain_f (a0 : Nat) (i1 : Int32) (h : AH) : Option (Int32 × AH) :=
  G (xc h a0 = 10) <|
  if (((xI h a0 4) >>> (i1 &&& 31)) &&& (nI 1)) = 0 then (
    some (nI 0, h)
  ) else (
    some (nI 1, h)
  )
theorem jX10_isAgain (x : CT) (a0 : Nat) (i1 : Int32) (h : AH) : J x qX10_isAgain ZI 0 [(0, rv (zx x) a0), (1, .int i1)] [] h (X10_isAgain_f a0 i1 h) := by
  unfold X10_isAgain_f
  refine J_aload_n 0 dX10_isAgain_0 rv_is rfl ?_
  refine J_G (fun g1 => ?_)
  refine J_getI kc_10 4 (by decide) rfl rfl kw_2_33 dX10_isAgain_1 g1 ?_
  refine J_iload_n 1 dX10_isAgain_4 rfl ?_
  refine J_ishr dX10_isAgain_5 ?_
  refine J_iconst (v := nI 1) dX10_isAgain_6 rfl ?_
  refine J_iand dX10_isAgain_7 ?_
  refine J_if_eq (tgt := 15) dX10_isAgain_8 rfl ?_ ?_
  · refine J_iconst (v := nI 0) dX10_isAgain_15 rfl ?_
    exact J_zret dX10_isAgain_16 (by decide)
  · refine J_iconst (v := nI 1) dX10_isAgain_11 rfl ?_
    refine J_goto (tgt := 16) dX10_isAgain_12 rfl ?_
    exact J_zret dX10_isAgain_16 (by decide)
theorem ctX10_isAgain (l : Launch) (w : WT) (a0 : Nat) (i1 : Int32) (h : AH) : CM l w yX10_isAgain cX10_isAgain 2 (some .boolean) 0 0 KI [rv (w.1) a0, .int i1] h (X10_isAgain_f a0 i1 h) :=
  CM.of (by decide +kernel) (by simp [lg_sl, rv_cat, cat_I, cat_L, cat_S]) (lv := [(0, rv (w.1) a0), (1, .int i1)]) (by simp [lv_args, rv_cat, cat_I, cat_L, cat_S]) (fun x hx => by subst hx; exact jX10_isAgain x a0 i1 h)
-- FallTrials$Works.copy(LFallTrials$Works;)V
abbrev qX10_copy : MT := (cX10_copy, RX10, "copy", none, 0, 0, 2)
def X10_copy_f (a0 : Nat) (a1 : Nat) (h : AH) : Option (Unit × AH) :=
  G (xc h a1 = 10) <|
  G (xc h a0 = 10) <|
  LT (pR h a0 0 (xR h a1 0)) fun h3 =>
  G (xc h3 a1 = 10) <|
  G (xc h3 a0 = 10) <|
  LT (pI h3 a0 1 (xI h3 a1 1)) fun h6 =>
  G (xc h6 a1 = 10) <|
  G (xc h6 a0 = 10) <|
  LT (pI h6 a0 2 (xI h6 a1 2)) fun h9 =>
  G (xc h9 a1 = 10) <|
  G (xc h9 a0 = 10) <|
  LT (pI h9 a0 3 (xI h9 a1 3)) fun h12 =>
  G (xc h12 a1 = 10) <|
  G (xc h12 a0 = 10) <|
  LT (pI h12 a0 4 (xI h12 a1 4)) fun h15 =>
  G (xc h15 a1 = 10) <|
  G (xc h15 a0 = 10) <|
  LT (pI h15 a0 5 (xI h15 a1 5)) fun h18 =>
  some ((), h18)
theorem jX10_copy (x : CT) (a0 : Nat) (a1 : Nat) (h : AH) : J x qX10_copy ZV 0 [(0, rv (zx x) a0), (1, rv (zx x) a1)] [] h (X10_copy_f a0 a1 h) := by
  unfold X10_copy_f
  refine J_aload_n 0 dX10_copy_0 rv_is rfl ?_
  refine J_aload_n 1 dX10_copy_1 rv_is rfl ?_
  refine J_G (fun g1 => ?_)
  refine J_getR kc_10 0 (by decide) rfl rfl kw_2_10 dX10_copy_2 g1 ?_
  refine J_G (fun g2 => ?_)
  refine J_putR kc_10 0 (by decide) rfl rfl (Or.inl ⟨_, rfl⟩) (Or.inl rfl) kw_2_10 dX10_copy_5 g2 ?_
  refine J_LTh (fun h3 => ?_)
  refine J_aload_n 0 dX10_copy_8 rv_is rfl ?_
  refine J_aload_n 1 dX10_copy_9 rv_is rfl ?_
  refine J_G (fun g4 => ?_)
  refine J_getI kc_10 1 (by decide) rfl rfl kw_2_17 dX10_copy_10 g4 ?_
  refine J_G (fun g5 => ?_)
  refine J_putI kc_10 1 (by decide) rfl rfl rfl rfl (Or.inl rfl) kw_2_17 dX10_copy_13 g5 ?_
  refine J_LTh (fun h6 => ?_)
  refine J_aload_n 0 dX10_copy_16 rv_is rfl ?_
  refine J_aload_n 1 dX10_copy_17 rv_is rfl ?_
  refine J_G (fun g7 => ?_)
  refine J_getI kc_10 2 (by decide) rfl rfl kw_2_23 dX10_copy_18 g7 ?_
  refine J_G (fun g8 => ?_)
  refine J_putI kc_10 2 (by decide) rfl rfl rfl rfl (Or.inl rfl) kw_2_23 dX10_copy_21 g8 ?_
  refine J_LTh (fun h9 => ?_)
  refine J_aload_n 0 dX10_copy_24 rv_is rfl ?_
  refine J_aload_n 1 dX10_copy_25 rv_is rfl ?_
  refine J_G (fun g10 => ?_)
  refine J_getI kc_10 3 (by decide) rfl rfl kw_2_29 dX10_copy_26 g10 ?_
  refine J_G (fun g11 => ?_)
  refine J_putI kc_10 3 (by decide) rfl rfl rfl rfl (Or.inl rfl) kw_2_29 dX10_copy_29 g11 ?_
  refine J_LTh (fun h12 => ?_)
  refine J_aload_n 0 dX10_copy_32 rv_is rfl ?_
  refine J_aload_n 1 dX10_copy_33 rv_is rfl ?_
  refine J_G (fun g13 => ?_)
  refine J_getI kc_10 4 (by decide) rfl rfl kw_2_33 dX10_copy_34 g13 ?_
  refine J_G (fun g14 => ?_)
  refine J_putI kc_10 4 (by decide) rfl rfl rfl rfl (Or.inl rfl) kw_2_33 dX10_copy_37 g14 ?_
  refine J_LTh (fun h15 => ?_)
  refine J_aload_n 0 dX10_copy_40 rv_is rfl ?_
  refine J_aload_n 1 dX10_copy_41 rv_is rfl ?_
  refine J_G (fun g16 => ?_)
  refine J_getI kc_10 5 (by decide) rfl rfl kw_2_34 dX10_copy_42 g16 ?_
  refine J_G (fun g17 => ?_)
  refine J_putI kc_10 5 (by decide) rfl rfl rfl rfl (Or.inl rfl) kw_2_34 dX10_copy_45 g17 ?_
  refine J_LTh (fun h18 => ?_)
  exact J_vret dX10_copy_48
theorem ctX10_copy (l : Launch) (w : WT) (a0 : Nat) (a1 : Nat) (h : AH) : CM l w yX10_copy cX10_copy 2 none 0 0 KV [rv (w.1) a0, rv (w.1) a1] h (X10_copy_f a0 a1 h) :=
  CM.of (by decide +kernel) (by simp [lg_sl, rv_cat, cat_I, cat_L, cat_S]) (lv := [(0, rv (w.1) a0), (1, rv (w.1) a1)]) (by simp [lv_args, rv_cat, cat_I, cat_L, cat_S]) (fun x hx => by subst hx; exact jX10_copy x a0 a1 h)
-- FallTrials$Works.change(I)V
abbrev qX10_change : MT := (cX10_change, RX10, "change", none, 0, 0, 3)
def X10_change_f (a0 : Nat) (i1 : Int32) (h : AH) : Option (Unit × AH) :=
  LT ((nI 1) <<< ((i1 - i1 / (nI 10) * (nI 10)) &&& 31)) fun v1 =>
  if (i1 / (nI 10)) = nI 0 then (
    G (xc h a0 = 10) <|
    LT (pI h a0 3 ((xI h a0 3) ||| v1)) fun h3 =>
    some ((), h3)
  ) else (
  if (i1 / (nI 10)) = nI 1 then (
    G (xc h a0 = 10) <|
    LT (pI h a0 4 ((xI h a0 4) ||| v1)) fun h6 =>
    some ((), h6)
  ) else (
  if (i1 / (nI 10)) = nI 2 then (
    G (xc h a0 = 10) <|
    LT (pI h a0 5 ((xI h a0 5) ||| v1)) fun h9 =>
    some ((), h9)
  ) else (
  some ((), h)
  )))
theorem jX10_change (x : CT) (a0 : Nat) (i1 : Int32) (h : AH) : J x qX10_change ZV 0 [(0, rv (zx x) a0), (1, .int i1)] [] h (X10_change_f a0 i1 h) := by
  unfold X10_change_f
  refine J_iconst (v := nI 1) dX10_change_0 rfl ?_
  refine J_iload_n 1 dX10_change_1 rfl ?_
  refine J_bipush (v := nI 10) dX10_change_2 rfl ?_
  refine J_irem dX10_change_4 (by decide) ?_
  refine J_ishl dX10_change_5 ?_
  refine J_LTi (fun v1 => ?_)
  refine J_istore_n dX10_change_6 (by decide) (SD.a (lvr := [(0, rv (zx x) a0), (1, .int i1)]) [0, 1] rfl rfl) ?_
  refine J_iload_n 2 dX10_change_7 rfl ?_
  refine J_bipush (v := nI 10) dX10_change_8 rfl ?_
  refine J_idiv dX10_change_10 (by decide) ?_
  refine J_tcase (c0 := nI 0) (tgt := 36) dX10_change_11 (by decide) (by decide) rfl rfl ?_ (fun n4 => ?_)
  · refine J_aload_n 1 dX10_change_36 rv_is rfl ?_
    refine J_dup dX10_change_37 rv_cat ?_
    refine J_G (fun g2 => ?_)
    refine J_getI kc_10 3 (by decide) rfl rfl kw_2_29 dX10_change_38 g2 ?_
    refine J_iload_n 0 dX10_change_41 rfl ?_
    refine J_ior dX10_change_42 ?_
    refine J_putI kc_10 3 (by decide) rfl rfl rfl rfl (Or.inl rfl) kw_2_29 dX10_change_43 g2 ?_
    refine J_LTh (fun h3 => ?_)
    refine J_goto (tgt := 75) dX10_change_46 rfl ?_
    exact J_vret dX10_change_75
  refine J_tcase (c0 := nI 1) (tgt := 49) dX10_change_11 (by decide) (by decide) rfl rfl ?_ (fun n7 => ?_)
  · refine J_aload_n 1 dX10_change_49 rv_is rfl ?_
    refine J_dup dX10_change_50 rv_cat ?_
    refine J_G (fun g5 => ?_)
    refine J_getI kc_10 4 (by decide) rfl rfl kw_2_33 dX10_change_51 g5 ?_
    refine J_iload_n 0 dX10_change_54 rfl ?_
    refine J_ior dX10_change_55 ?_
    refine J_putI kc_10 4 (by decide) rfl rfl rfl rfl (Or.inl rfl) kw_2_33 dX10_change_56 g5 ?_
    refine J_LTh (fun h6 => ?_)
    refine J_goto (tgt := 75) dX10_change_59 rfl ?_
    exact J_vret dX10_change_75
  refine J_tcase (c0 := nI 2) (tgt := 62) dX10_change_11 (by decide) (by decide) rfl rfl ?_ (fun n10 => ?_)
  · refine J_aload_n 1 dX10_change_62 rv_is rfl ?_
    refine J_dup dX10_change_63 rv_cat ?_
    refine J_G (fun g8 => ?_)
    refine J_getI kc_10 5 (by decide) rfl rfl kw_2_34 dX10_change_64 g8 ?_
    refine J_iload_n 0 dX10_change_67 rfl ?_
    refine J_ior dX10_change_68 ?_
    refine J_putI kc_10 5 (by decide) rfl rfl rfl rfl (Or.inl rfl) kw_2_34 dX10_change_69 g8 ?_
    refine J_LTh (fun h9 => ?_)
    refine J_goto (tgt := 75) dX10_change_72 rfl ?_
    exact J_vret dX10_change_75
  refine J_tdef (tgt := 75) dX10_change_11 (by have := sw_ne (by decide : (nI 0 : Int32).toInt = 0) n4; have := sw_ne (by decide : (nI 1 : Int32).toInt = 1) n7; have := sw_ne (by decide : (nI 2 : Int32).toInt = 2) n10; omega) rfl ?_
  exact J_vret dX10_change_75
theorem ctX10_change (l : Launch) (w : WT) (a0 : Nat) (i1 : Int32) (h : AH) : CM l w yX10_change cX10_change 3 none 0 0 KV [rv (w.1) a0, .int i1] h (X10_change_f a0 i1 h) :=
  CM.of (by decide +kernel) (by simp [lg_sl, rv_cat, cat_I, cat_L, cat_S]) (lv := [(0, rv (w.1) a0), (1, .int i1)]) (by simp [lv_args, rv_cat, cat_I, cat_L, cat_S]) (fun x hx => by subst hx; exact jX10_change x a0 i1 h)
-- FallTrials.feed(IIIII)I
abbrev qX11_feed : MT := (cX11_feed, RX11, "feed", (some .int), 1, 22, 6)
def X11_feed_f (a0 : Nat) (i1 : Int32) (i2 : Int32) (i3 : Int32) (i4 : Int32) (i5 : Int32) (h : AH) : Option (Int32 × AH) :=
  G (xc h a0 = 11) <|
  G (xc h (xR h a0 0) = 6) <|
  if ((xI h (xR h a0 0) 4) + (nI 20)) ≤ (nI 700) then (
    G (xc h a0 = 11) <|
    G (xc h (xR h a0 0) = 6) <|
    BN (X6_takeNumber_f (xR h a0 0) i1 h) fun _ h5 =>
    G (xc h5 a0 = 11) <|
    G (xc h5 (xR h5 a0 0) = 6) <|
    BN (X6_takeNumber_f (xR h5 a0 0) i2 h5) fun _ h8 =>
    G (xc h8 a0 = 11) <|
    G (xc h8 (xR h8 a0 0) = 6) <|
    BN (X6_takeNumber_f (xR h8 a0 0) i3 h8) fun _ h11 =>
    G (xc h11 a0 = 11) <|
    G (xc h11 (xR h11 a0 0) = 6) <|
    BN (X6_takeNumber_f (xR h11 a0 0) i4 h11) fun _ h14 =>
    G (xc h14 a0 = 11) <|
    G (xc h14 (xR h14 a0 0) = 6) <|
    BN (X6_takeNumber_f (xR h14 a0 0) i5 h14) fun _ h17 =>
    G (xc h17 a0 = 11) <|
    G (xc h17 (xR h17 a0 0) = 6) <|
    some (xI h17 (xR h17 a0 0) 4, h17)
  ) else (
    some ((-1), h)
  )
theorem jX11_feed (x : CT) (a0 : Nat) (i1 : Int32) (i2 : Int32) (i3 : Int32) (i4 : Int32) (i5 : Int32) (h : AH) : J x qX11_feed ZI 0 [(0, rv (zx x) a0), (1, .int i1), (2, .int i2), (3, .int i3), (4, .int i4), (5, .int i5)] [] h (X11_feed_f a0 i1 i2 i3 i4 i5 h) := by
  unfold X11_feed_f
  refine J_aload_n 0 dX11_feed_0 rv_is rfl ?_
  refine J_G (fun g1 => ?_)
  refine J_getR kc_11 0 (by decide) rfl rfl kw_3_42 dX11_feed_1 g1 ?_
  refine J_G (fun g2 => ?_)
  refine J_getI kc_6 4 (by decide) rfl rfl kw_1_209 dX11_feed_4 g2 ?_
  refine J_bipush (v := nI 20) dX11_feed_7 rfl ?_
  refine J_iadd dX11_feed_9 ?_
  refine J_sipush (v := nI 700) dX11_feed_10 rfl ?_
  refine J_icmp_le (tgt := 18) dX11_feed_13 rfl ?_ ?_
  · refine J_aload_n 0 dX11_feed_18 rv_is rfl ?_
    refine J_G (fun g3 => ?_)
    refine J_getR kc_11 0 (by decide) rfl rfl kw_3_42 dX11_feed_19 g3 ?_
    refine J_iload_n 1 dX11_feed_22 rfl ?_
    refine J_G (fun g4 => ?_)
    refine J.callV (n := 1) (As := [.int i1]) kc_6 (ctX6_takeNumber (lx x) (wx x) (xR h a0 0) i1 h) kw_3_104 kw_3_101 kw_3_102 kw_3_103 kw_1_4 (by decide +kernel) rfl (by decide) (Nat.zero_le _) rfl dX11_feed_23 g4 (fun _ h5 => ?_)
    show J x _ _ 26 _ [] h5 _
    refine J_aload_n 0 dX11_feed_26 rv_is rfl ?_
    refine J_G (fun g6 => ?_)
    refine J_getR kc_11 0 (by decide) rfl rfl kw_3_42 dX11_feed_27 g6 ?_
    refine J_iload_n 2 dX11_feed_30 rfl ?_
    refine J_G (fun g7 => ?_)
    refine J.callV (n := 1) (As := [.int i2]) kc_6 (ctX6_takeNumber (lx x) (wx x) (xR h5 a0 0) i2 h5) kw_3_104 kw_3_101 kw_3_102 kw_3_103 kw_1_4 (by decide +kernel) rfl (by decide) (Nat.zero_le _) rfl dX11_feed_31 g7 (fun _ h8 => ?_)
    show J x _ _ 34 _ [] h8 _
    refine J_aload_n 0 dX11_feed_34 rv_is rfl ?_
    refine J_G (fun g9 => ?_)
    refine J_getR kc_11 0 (by decide) rfl rfl kw_3_42 dX11_feed_35 g9 ?_
    refine J_iload_n 3 dX11_feed_38 rfl ?_
    refine J_G (fun g10 => ?_)
    refine J.callV (n := 1) (As := [.int i3]) kc_6 (ctX6_takeNumber (lx x) (wx x) (xR h8 a0 0) i3 h8) kw_3_104 kw_3_101 kw_3_102 kw_3_103 kw_1_4 (by decide +kernel) rfl (by decide) (Nat.zero_le _) rfl dX11_feed_39 g10 (fun _ h11 => ?_)
    show J x _ _ 42 _ [] h11 _
    refine J_aload_n 0 dX11_feed_42 rv_is rfl ?_
    refine J_G (fun g12 => ?_)
    refine J_getR kc_11 0 (by decide) rfl rfl kw_3_42 dX11_feed_43 g12 ?_
    refine J_iload 4 dX11_feed_46 rfl ?_
    refine J_G (fun g13 => ?_)
    refine J.callV (n := 1) (As := [.int i4]) kc_6 (ctX6_takeNumber (lx x) (wx x) (xR h11 a0 0) i4 h11) kw_3_104 kw_3_101 kw_3_102 kw_3_103 kw_1_4 (by decide +kernel) rfl (by decide) (Nat.zero_le _) rfl dX11_feed_48 g13 (fun _ h14 => ?_)
    show J x _ _ 51 _ [] h14 _
    refine J_aload_n 0 dX11_feed_51 rv_is rfl ?_
    refine J_G (fun g15 => ?_)
    refine J_getR kc_11 0 (by decide) rfl rfl kw_3_42 dX11_feed_52 g15 ?_
    refine J_iload 5 dX11_feed_55 rfl ?_
    refine J_G (fun g16 => ?_)
    refine J.callV (n := 1) (As := [.int i5]) kc_6 (ctX6_takeNumber (lx x) (wx x) (xR h14 a0 0) i5 h14) kw_3_104 kw_3_101 kw_3_102 kw_3_103 kw_1_4 (by decide +kernel) rfl (by decide) (Nat.zero_le _) rfl dX11_feed_57 g16 (fun _ h17 => ?_)
    show J x _ _ 60 _ [] h17 _
    refine J_aload_n 0 dX11_feed_60 rv_is rfl ?_
    refine J_G (fun g18 => ?_)
    refine J_getR kc_11 0 (by decide) rfl rfl kw_3_42 dX11_feed_61 g18 ?_
    refine J_G (fun g19 => ?_)
    refine J_getI kc_6 4 (by decide) rfl rfl kw_1_209 dX11_feed_64 g19 ?_
    exact J_iret dX11_feed_67
  · refine J_iconst (v := (-1)) dX11_feed_16 rfl ?_
    exact J_iret dX11_feed_17
theorem ctX11_feed (l : Launch) (w : WT) (a0 : Nat) (i1 : Int32) (i2 : Int32) (i3 : Int32) (i4 : Int32) (i5 : Int32) (h : AH) : CM l w yX11_feed cX11_feed 6 (some .int) 1 22 KI [rv (w.1) a0, .int i1, .int i2, .int i3, .int i4, .int i5] h (X11_feed_f a0 i1 i2 i3 i4 i5 h) :=
  CM.of (by decide +kernel) (by simp [lg_sl, rv_cat, cat_I, cat_L, cat_S]) (lv := [(0, rv (w.1) a0), (1, .int i1), (2, .int i2), (3, .int i3), (4, .int i4), (5, .int i5)]) (by simp [lv_args, rv_cat, cat_I, cat_L, cat_S]) (fun x hx => by subst hx; exact jX11_feed x a0 i1 i2 i3 i4 i5 h)
-- FallTrials.refuse(I)I
abbrev qX11_refuse : MT := (cX11_refuse, RX11, "refuse", (some .int), 0, 0, 2)
def X11_refuse_f (a0 : Nat) (i1 : Int32) (h : AH) : Option (Int32 × AH) :=
  G (xc h a0 = 11) <|
  LT (pI h a0 15 i1) fun h2 =>
  some ((-1), h2)
theorem jX11_refuse (x : CT) (a0 : Nat) (i1 : Int32) (h : AH) : J x qX11_refuse ZI 0 [(0, rv (zx x) a0), (1, .int i1)] [] h (X11_refuse_f a0 i1 h) := by
  unfold X11_refuse_f
  refine J_aload_n 0 dX11_refuse_0 rv_is rfl ?_
  refine J_iload_n 1 dX11_refuse_1 rfl ?_
  refine J_G (fun g1 => ?_)
  refine J_putI kc_11 15 (by decide) rfl rfl rfl rfl (Or.inl rfl) kw_3_57 dX11_refuse_2 g1 ?_
  refine J_LTh (fun h2 => ?_)
  refine J_iconst (v := (-1)) dX11_refuse_5 rfl ?_
  exact J_iret dX11_refuse_6
theorem ctX11_refuse (l : Launch) (w : WT) (a0 : Nat) (i1 : Int32) (h : AH) : CM l w yX11_refuse cX11_refuse 2 (some .int) 0 0 KI [rv (w.1) a0, .int i1] h (X11_refuse_f a0 i1 h) :=
  CM.of (by decide +kernel) (by simp [lg_sl, rv_cat, cat_I, cat_L, cat_S]) (lv := [(0, rv (w.1) a0), (1, .int i1)]) (by simp [lv_args, rv_cat, cat_I, cat_L, cat_S]) (fun x hx => by subst hx; exact jX11_refuse x a0 i1 h)
-- FallTrials.grant(I)I
abbrev qX11_grant : MT := (cX11_grant, RX11, "grant", (some .int), 0, 0, 2)
def X11_grant_f (a0 : Nat) (i1 : Int32) (h : AH) : Option (Int32 × AH) :=
  G (xc h a0 = 11) <|
  LT (pI h a0 15 (nI 0)) fun h2 =>
  some (i1, h2)
theorem jX11_grant (x : CT) (a0 : Nat) (i1 : Int32) (h : AH) : J x qX11_grant ZI 0 [(0, rv (zx x) a0), (1, .int i1)] [] h (X11_grant_f a0 i1 h) := by
  unfold X11_grant_f
  refine J_aload_n 0 dX11_grant_0 rv_is rfl ?_
  refine J_iconst (v := nI 0) dX11_grant_1 rfl ?_
  refine J_G (fun g1 => ?_)
  refine J_putI kc_11 15 (by decide) rfl rfl rfl rfl (Or.inl rfl) kw_3_57 dX11_grant_2 g1 ?_
  refine J_LTh (fun h2 => ?_)
  refine J_iload_n 1 dX11_grant_5 rfl ?_
  exact J_iret dX11_grant_6
theorem ctX11_grant (l : Launch) (w : WT) (a0 : Nat) (i1 : Int32) (h : AH) : CM l w yX11_grant cX11_grant 2 (some .int) 0 0 KI [rv (w.1) a0, .int i1] h (X11_grant_f a0 i1 h) :=
  CM.of (by decide +kernel) (by simp [lg_sl, rv_cat, cat_I, cat_L, cat_S]) (lv := [(0, rv (w.1) a0), (1, .int i1)]) (by simp [lv_args, rv_cat, cat_I, cat_L, cat_S]) (fun x hx => by subst hx; exact jX11_grant x a0 i1 h)
-- FallTrials.fault()I
abbrev qX11_fault : MT := (cX11_fault, RX11, "fault", (some .int), 0, 0, 1)
def X11_fault_f (a0 : Nat) (h : AH) : Option (Int32 × AH) :=
  G (xc h a0 = 11) <|
  some (xI h a0 16, h)
theorem jX11_fault (x : CT) (a0 : Nat) (h : AH) : J x qX11_fault ZI 0 [(0, rv (zx x) a0)] [] h (X11_fault_f a0 h) := by
  unfold X11_fault_f
  refine J_aload_n 0 dX11_fault_0 rv_is rfl ?_
  refine J_G (fun g1 => ?_)
  refine J_getI kc_11 16 (by decide) rfl rfl kw_3_58 dX11_fault_1 g1 ?_
  exact J_iret dX11_fault_4
theorem ctX11_fault (l : Launch) (w : WT) (a0 : Nat) (h : AH) : CM l w yX11_fault cX11_fault 1 (some .int) 0 0 KI [rv (w.1) a0] h (X11_fault_f a0 h) :=
  CM.of (by decide +kernel) (by simp [lg_sl, rv_cat, cat_I, cat_L, cat_S]) (lv := [(0, rv (w.1) a0)]) (by simp [lv_args, rv_cat, cat_I, cat_L, cat_S]) (fun x hx => by subst hx; exact jX11_fault x a0 h)
-- FallTrials.where()I
abbrev qX11_where : MT := (cX11_where, RX11, "where", (some .int), 0, 0, 1)
def X11_where_f (a0 : Nat) (h : AH) : Option (Int32 × AH) :=
  G (xc h a0 = 11) <|
  if (xI h a0 15) = (nI 4) then (
    G (xc h a0 = 11) <|
    some (xI h a0 17, h)
  ) else (
    some ((-1), h)
  )
theorem jX11_where (x : CT) (a0 : Nat) (h : AH) : J x qX11_where ZI 0 [(0, rv (zx x) a0)] [] h (X11_where_f a0 h) := by
  unfold X11_where_f
  refine J_aload_n 0 dX11_where_0 rv_is rfl ?_
  refine J_G (fun g1 => ?_)
  refine J_getI kc_11 15 (by decide) rfl rfl kw_3_57 dX11_where_1 g1 ?_
  refine J_iconst (v := nI 4) dX11_where_4 rfl ?_
  refine J_icmp_ne (tgt := 15) dX11_where_5 rfl ?_ ?_
  · refine J_iconst (v := (-1)) dX11_where_15 rfl ?_
    exact J_iret dX11_where_16
  · refine J_aload_n 0 dX11_where_8 rv_is rfl ?_
    refine J_G (fun g2 => ?_)
    refine J_getI kc_11 17 (by decide) rfl rfl kw_3_59 dX11_where_9 g2 ?_
    refine J_goto (tgt := 16) dX11_where_12 rfl ?_
    exact J_iret dX11_where_16
theorem ctX11_where (l : Launch) (w : WT) (a0 : Nat) (h : AH) : CM l w yX11_where cX11_where 1 (some .int) 0 0 KI [rv (w.1) a0] h (X11_where_f a0 h) :=
  CM.of (by decide +kernel) (by simp [lg_sl, rv_cat, cat_I, cat_L, cat_S]) (lv := [(0, rv (w.1) a0)]) (by simp [lv_args, rv_cat, cat_I, cat_L, cat_S]) (fun x hx => by subst hx; exact jX11_where x a0 h)
