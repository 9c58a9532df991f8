-- FallTrialsModel.bits(I)I
abbrev qX15_bits : MT := (cX15_bits, RX15, "bits", (some .int), 0, 0, 3)
def X15_bits_B4 : Nat → Int32 → Int32 → AH → Option (Int32 × AH)
  | 0, _, _, _ => none
  | n + 1, i1, i2, h =>
    if i2 = 0 then (
      some (i1, h)
    ) else (
      LT (i1 + nI 1) fun v1 =>
      LT (i2 &&& (i2 - (nI 1))) fun v2 =>
      X15_bits_B4 n v1 v2 h
    )
theorem jX15_bits_B4 (x : CT) : ∀ (n : Nat) (i1 : Int32) (i2 : Int32) (h : AH), J x qX15_bits ZI 4 [(1, .int i1), (2, .int i2)] [] h (X15_bits_B4 n i1 i2 h) := by
  intro n
  induction n with
  | zero => intro i1 i2 h; exact J_none
  | succ n ih =>
    intro i1 i2 h
    unfold X15_bits_B4
    refine J_iload_n 1 dX15_bits_4 rfl ?_
    refine J_if_eq (tgt := 20) dX15_bits_5 rfl ?_ ?_
    · refine J_iload_n 0 dX15_bits_20 rfl ?_
      exact J_iret dX15_bits_21
    · refine J_iincL (u := i1 + nI 1) 0 dX15_bits_8 rfl rfl (by decide) (SD.a (lvr := [(2, .int i2)]) [1] rfl rfl) (fun v1 => ?_)
      refine J_iload_n 1 dX15_bits_11 rfl ?_
      refine J_iload_n 1 dX15_bits_12 rfl ?_
      refine J_iconst (v := nI 1) dX15_bits_13 rfl ?_
      refine J_isub dX15_bits_14 ?_
      refine J_iand dX15_bits_15 ?_
      refine J_LTi (fun v2 => ?_)
      refine J_istore_n dX15_bits_16 (by decide) (SD.a (lvr := [(1, .int v1)]) [0] rfl rfl) ?_
      refine J_goto (tgt := 4) dX15_bits_17 rfl ?_
      exact J_sub [1, 0] rfl (ih v1 v2 h)
def X15_bits_f (i0 : Int32) (h : AH) : Option (Int32 × AH) :=
  X15_bits_B4 FU (nI 0) i0 h
theorem jX15_bits (x : CT) (i0 : Int32) (h : AH) : J x qX15_bits ZI 0 [(0, .int i0)] [] h (X15_bits_f i0 h) := by
  unfold X15_bits_f
  refine J_iconst (v := nI 0) dX15_bits_0 rfl ?_
  refine J_istore_n dX15_bits_1 (by decide) (SD.a (lvr := [(0, .int i0)]) [0] rfl rfl) ?_
  refine J_iload_n 1 dX15_bits_2 rfl ?_
  refine J_istore_n dX15_bits_3 (by decide) (SD.a (lvr := [(1, .int (nI 0))]) [0] rfl rfl) ?_
  exact J_sub [1, 0] rfl (jX15_bits_B4 x FU (nI 0) i0 h)
theorem ctX15_bits (l : Launch) (w : WT) (i0 : Int32) (h : AH) : CM l w yX15_bits cX15_bits 3 (some .int) 0 0 KI [.int i0] h (X15_bits_f i0 h) :=
  CM.of (by decide +kernel) (by simp [lg_sl, rv_cat, cat_I, cat_L, cat_S]) (lv := [(0, .int i0)]) (by simp [lv_args, rv_cat, cat_I, cat_L, cat_S]) (fun x hx => by subst hx; exact jX15_bits x i0 h)
-- FallTrialsModel.make(I)I
abbrev qX15_make : MT := (cX15_make, RX15, "make", (some .int), 2, 43, 2)
def X15_make_B32 (a0 : Nat) (h : AH) : Option (Int32 × AH) :=
  G (xc h a0 = 15) <|
  BN (X15_refused_f a0 (nI 2) h) fun v3 h2 =>
  some (v3, h2)
theorem jX15_make_B32 (x : CT) (a0 : Nat) (h : AH) : J x qX15_make ZI 32 [(0, rv (zx x) a0)] [] h (X15_make_B32 a0 h) := by
  unfold X15_make_B32
  refine J_aload_n 0 dX15_make_32 rv_is rfl ?_
  refine J_iconst (v := nI 2) dX15_make_33 rfl ?_
  refine J_G (fun g1 => ?_)
  refine J.callV (n := 1) (As := [.int (nI 2)]) kc_15 (ctX15_refused (lx x) (wx x) a0 (nI 2) h) kw_7_139 kw_7_136 kw_7_138 kp_8 kw_1_13 (by decide +kernel) rfl (by decide) (Nat.zero_le _) rfl dX15_make_34 g1 (fun v3 h2 => ?_)
  show J x _ _ 37 _ [.int v3] h2 _
  exact J_iret dX15_make_37
def X15_make_f (a0 : Nat) (i1 : Int32) (h : AH) : Option (Int32 × AH) :=
  G (xc h a0 = 15) <|
  LT (pI h a0 0 (nI 0)) fun h2 =>
  G (xc h2 a0 = 15) <|
  if (xR h2 a0 4) = 0 then (
    G (xc h2 a0 = 15) <|
    BN (X15_refused_f a0 (nI 1) h2) fun v16 h15 =>
    some (v16, h15)
  ) else (
    if i1 < 0 then (
      X15_make_B32 a0 h2
    ) else (
      G (xc h2 a0 = 15) <|
      if i1 < ((nI 1) <<< ((xI h2 a0 17) &&& 31)) then (
        G (xc h2 a0 = 15) <|
        BN (X15_makes_f a0 i1 h2) fun _ h6 =>
        G (xc h6 a0 = 15) <|
        LT (pI h6 a0 17 (nI 0)) fun h8 =>
        BN (X15_bits_f i1 h8) fun v10 h9 =>
        G (xc h9 a0 = 15) <|
        BN (X15_done_f a0 v10 h9) fun v13 h12 =>
        some (v13, h12)
      ) else (
        X15_make_B32 a0 h2
      )
    )
  )
theorem jX15_make (x : CT) (a0 : Nat) (i1 : Int32) (h : AH) : J x qX15_make ZI 0 [(0, rv (zx x) a0), (1, .int i1)] [] h (X15_make_f a0 i1 h) := by
  unfold X15_make_f
  refine J_aload_n 0 dX15_make_0 rv_is rfl ?_
  refine J_iconst (v := nI 0) dX15_make_1 rfl ?_
  refine J_G (fun g1 => ?_)
  refine J_putI kc_15 0 (by decide) rfl rfl rfl rfl (Or.inl rfl) kw_6_210 dX15_make_2 g1 ?_
  refine J_LTh (fun h2 => ?_)
  refine J_aload_n 0 dX15_make_5 rv_is rfl ?_
  refine J_G (fun g3 => ?_)
  refine J_getR kc_15 4 (by decide) rfl rfl kw_6_214 dX15_make_6 g3 ?_
  refine J_ifnonnull (tgt := 18) dX15_make_9 rfl ?_ ?_
  · refine J_iload_n 1 dX15_make_18 rfl ?_
    refine J_if_lt (tgt := 32) dX15_make_19 rfl ?_ ?_
    · exact J_sub [0] rfl (jX15_make_B32 x a0 h2)
    · refine J_iload_n 1 dX15_make_22 rfl ?_
      refine J_iconst (v := nI 1) dX15_make_23 rfl ?_
      refine J_aload_n 0 dX15_make_24 rv_is rfl ?_
      refine J_G (fun g4 => ?_)
      refine J_getI kc_15 17 (by decide) rfl rfl kw_6_227 dX15_make_25 g4 ?_
      refine J_ishl dX15_make_28 ?_
      refine J_icmp_lt (tgt := 38) dX15_make_29 rfl ?_ ?_
      · refine J_aload_n 0 dX15_make_38 rv_is rfl ?_
        refine J_iload_n 1 dX15_make_39 rfl ?_
        refine J_G (fun g5 => ?_)
        refine J.callV (n := 1) (As := [.int i1]) kc_15 (ctX15_makes (lx x) (wx x) a0 i1 h2) kw_9_143 kw_9_140 kw_9_142 kp_60 kw_1_13 (by decide +kernel) rfl (by decide) (Nat.zero_le _) rfl dX15_make_40 g5 (fun _ h6 => ?_)
        show J x _ _ 43 _ [] h6 _
        refine J_aload_n 0 dX15_make_43 rv_is rfl ?_
        refine J_iconst (v := nI 0) dX15_make_44 rfl ?_
        refine J_G (fun g7 => ?_)
        refine J_putI kc_15 17 (by decide) rfl rfl rfl rfl (Or.inl rfl) kw_6_227 dX15_make_45 g7 ?_
        refine J_LTh (fun h8 => ?_)
        refine J_aload_n 0 dX15_make_48 rv_is rfl ?_
        refine J_iload_n 1 dX15_make_49 rfl ?_
        refine J.callS (n := 1) (As := [.int i1]) (ctX15_bits (lx x) (wx x) i1 h8) kw_9_150 kw_9_148 kw_9_149 kw_1_13 (by decide +kernel) rfl (by decide) (by simp [rv_cat, cat_I, cat_L, cat_S]) rfl dX15_make_50 (fun v10 h9 => ?_)
        show J x _ _ 53 _ [.int v10, rv (zx x) a0] h9 _
        refine J_G (fun g11 => ?_)
        refine J.callV (n := 1) (As := [.int v10]) kc_15 (ctX15_done (lx x) (wx x) a0 v10 h9) kw_8_103 kw_8_100 kw_8_102 kp_24 kw_1_13 (by decide +kernel) rfl (by decide) (Nat.zero_le _) rfl dX15_make_53 g11 (fun v13 h12 => ?_)
        show J x _ _ 56 _ [.int v13] h12 _
        exact J_iret dX15_make_56
      · exact J_sub [0] rfl (jX15_make_B32 x a0 h2)
  · refine J_aload_n 0 dX15_make_12 rv_is rfl ?_
    refine J_iconst (v := nI 1) dX15_make_13 rfl ?_
    refine J_G (fun g14 => ?_)
    refine J.callV (n := 1) (As := [.int (nI 1)]) kc_15 (ctX15_refused (lx x) (wx x) a0 (nI 1) h2) kw_7_139 kw_7_136 kw_7_138 kp_8 kw_1_13 (by decide +kernel) rfl (by decide) (Nat.zero_le _) rfl dX15_make_14 g14 (fun v16 h15 => ?_)
    show J x _ _ 17 _ [.int v16] h15 _
    exact J_iret dX15_make_17
theorem ctX15_make (l : Launch) (w : WT) (a0 : Nat) (i1 : Int32) (h : AH) : CM l w yX15_make cX15_make 2 (some .int) 2 43 KI [rv (w.1) a0, .int i1] h (X15_make_f a0 i1 h) :=
  CM.of (by decide +kernel) (by simp [lg_sl, rv_cat, cat_I, cat_L, cat_S]) (lv := [(0, rv (w.1) a0), (1, .int i1)]) (by simp [lv_args, rv_cat, cat_I, cat_L, cat_S]) (fun x hx => by subst hx; exact jX15_make x a0 i1 h)
-- FallTrialsModel.trouble()I
abbrev qX15_trouble : MT := (cX15_trouble, RX15, "trouble", (some .int), 0, 0, 1)
def X15_trouble_f (a0 : Nat) (h : AH) : Option (Int32 × AH) :=
  G (xc h a0 = 15) <|
  LT (pI h a0 0 (nI 0)) fun h2 =>
  G (xc h2 a0 = 15) <|
  some (xI h2 a0 1, h2)
theorem jX15_trouble (x : CT) (a0 : Nat) (h : AH) : J x qX15_trouble ZI 0 [(0, rv (zx x) a0)] [] h (X15_trouble_f a0 h) := by
  unfold X15_trouble_f
  refine J_aload_n 0 dX15_trouble_0 rv_is rfl ?_
  refine J_iconst (v := nI 0) dX15_trouble_1 rfl ?_
  refine J_G (fun g1 => ?_)
  refine J_putI kc_15 0 (by decide) rfl rfl rfl rfl (Or.inl rfl) kw_6_210 dX15_trouble_2 g1 ?_
  refine J_LTh (fun h2 => ?_)
  refine J_aload_n 0 dX15_trouble_5 rv_is rfl ?_
  refine J_G (fun g3 => ?_)
  refine J_getI kc_15 1 (by decide) rfl rfl kw_6_211 dX15_trouble_6 g3 ?_
  exact J_iret dX15_trouble_9
theorem ctX15_trouble (l : Launch) (w : WT) (a0 : Nat) (h : AH) : CM l w yX15_trouble cX15_trouble 1 (some .int) 0 0 KI [rv (w.1) a0] h (X15_trouble_f a0 h) :=
  CM.of (by decide +kernel) (by simp [lg_sl, rv_cat, cat_I, cat_L, cat_S]) (lv := [(0, rv (w.1) a0)]) (by simp [lv_args, rv_cat, cat_I, cat_L, cat_S]) (fun x hx => by subst hx; exact jX15_trouble x a0 h)
-- java/lang/StringUTF16.length([B)I
abbrev qJ2_length_9d52b : MT := (cJ2_length_9d52b, RJ2, "length", (some .int), 0, 0, 1)
def J2_length_9d52b_f (a0 : Nat) (h : AH) : Option (Int32 × AH) :=
  G (xc h a0 = 18) <|
  some ((nI (xz h a0)) >>> ((nI 1) &&& 31), h)
theorem jJ2_length_9d52b (x : CT) (a0 : Nat) (h : AH) : J x qJ2_length_9d52b ZI 0 [(0, rv (zx x) a0)] [] h (J2_length_9d52b_f a0 h) := by
  unfold J2_length_9d52b_f
  refine J_aload_n 0 dJ2_length_9d52b_0 rv_is rfl ?_
  refine J_G (fun g1 => ?_)
  refine J_alen18 dJ2_length_9d52b_1 g1 ?_
  refine J_iconst (v := nI 1) dJ2_length_9d52b_2 rfl ?_
  refine J_ishr dJ2_length_9d52b_3 ?_
  exact J_iret dJ2_length_9d52b_4
theorem ctJ2_length_9d52b (l : Launch) (w : WT) (a0 : Nat) (h : AH) : CM l w yJ2_length_9d52b cJ2_length_9d52b 1 (some .int) 0 0 KI [rv (w.1) a0] h (J2_length_9d52b_f a0 h) :=
  CM.of (by decide +kernel) (by simp [lg_sl, rv_cat, cat_I, cat_L, cat_S]) (lv := [(0, rv (w.1) a0)]) (by simp [lv_args, rv_cat, cat_I, cat_L, cat_S]) (fun x hx => by subst hx; exact jJ2_length_9d52b x a0 h)
-- java/util/Arrays.fill([JJ)V
abbrev qJ7_fill_d0a16 : MT := (cJ7_fill_d0a16, RJ7, "fill", none, 0, 0, 5)
def J7_fill_d0a16_B6 : Nat → Nat → Int64 → Int32 → Int32 → AH → Option (Unit × AH)
  | 0, _, _, _, _, _ => none
  | n + 1, a0, l1, i3, i4, h =>
    if i4 ≤ i3 then (
      some ((), h)
    ) else (
      G (xc h a0 = 17) <|
      G (gx i3 (xz h a0)) <|
      LT (pL h a0 i3.toNatClampNeg l1) fun h3 =>
      LT (i3 + nI 1) fun v4 =>
      J7_fill_d0a16_B6 n a0 l1 v4 i4 h3
    )
theorem jJ7_fill_d0a16_B6 (x : CT) : ∀ (n : Nat) (a0 : Nat) (l1 : Int64) (i3 : Int32) (i4 : Int32) (h : AH), J x qJ7_fill_d0a16 ZV 6 [(0, rv (zx x) a0), (1, .long l1), (3, .int i3), (4, .int i4)] [] h (J7_fill_d0a16_B6 n a0 l1 i3 i4 h) := by
  intro n
  induction n with
  | zero => intro a0 l1 i3 i4 h; exact J_none
  | succ n ih =>
    intro a0 l1 i3 i4 h
    unfold J7_fill_d0a16_B6
    refine J_iload_n 2 dJ7_fill_d0a16_6 rfl ?_
    refine J_iload 3 dJ7_fill_d0a16_7 rfl ?_
    refine J_icmp_ge (tgt := 22) dJ7_fill_d0a16_9 rfl ?_ ?_
    · exact J_vret dJ7_fill_d0a16_22
    · refine J_aload_n 0 dJ7_fill_d0a16_12 rv_is rfl ?_
      refine J_iload_n 2 dJ7_fill_d0a16_13 rfl ?_
      refine J_lload_n 1 dJ7_fill_d0a16_14 rfl ?_
      refine J_G (fun g1 => ?_)
      refine J_G (fun g2 => ?_)
      refine J_last dJ7_fill_d0a16_15 g1 g2 ?_
      refine J_LTh (fun h3 => ?_)
      refine J_iincL (u := i3 + nI 1) 2 dJ7_fill_d0a16_16 rfl rfl (by decide) (SD.a (lvr := [(0, rv (zx x) a0), (1, .long l1), (4, .int i4)]) [0, 1, 3] rfl rfl) (fun v4 => ?_)
      refine J_goto (tgt := 6) dJ7_fill_d0a16_19 rfl ?_
      exact J_sub [1, 2, 0, 3] rfl (ih a0 l1 v4 i4 h3)
def J7_fill_d0a16_f (a0 : Nat) (l1 : Int64) (h : AH) : Option (Unit × AH) :=
  G (xc h a0 = 17) <|
  LT (nI (xz h a0)) fun v2 =>
  J7_fill_d0a16_B6 FU a0 l1 (nI 0) v2 h
theorem jJ7_fill_d0a16 (x : CT) (a0 : Nat) (l1 : Int64) (h : AH) : J x qJ7_fill_d0a16 ZV 0 [(0, rv (zx x) a0), (1, .long l1)] [] h (J7_fill_d0a16_f a0 l1 h) := by
  unfold J7_fill_d0a16_f
  refine J_iconst (v := nI 0) dJ7_fill_d0a16_0 rfl ?_
  refine J_istore_n dJ7_fill_d0a16_1 (by decide) (SD.a (lvr := [(0, rv (zx x) a0), (1, .long l1)]) [0, 1] rfl rfl) ?_
  refine J_aload_n 1 dJ7_fill_d0a16_2 rv_is rfl ?_
  refine J_G (fun g1 => ?_)
  refine J_alen17 dJ7_fill_d0a16_3 g1 ?_
  refine J_LTi (fun v2 => ?_)
  refine J_istore dJ7_fill_d0a16_4 (by decide) (SD.a (lvr := [(3, .int (nI 0)), (0, rv (zx x) a0), (1, .long l1)]) [0, 1, 2] rfl rfl) ?_
  exact J_sub [2, 3, 1, 0] rfl (jJ7_fill_d0a16_B6 x FU a0 l1 (nI 0) v2 h)
theorem ctJ7_fill_d0a16 (l : Launch) (w : WT) (a0 : Nat) (l1 : Int64) (h : AH) : CM l w yJ7_fill_d0a16 cJ7_fill_d0a16 5 none 0 0 KV [rv (w.1) a0, .long l1] h (J7_fill_d0a16_f a0 l1 h) :=
  CM.of (by decide +kernel) (by simp [lg_sl, rv_cat, cat_I, cat_L, cat_S]) (lv := [(0, rv (w.1) a0), (1, .long l1)]) (by simp [lv_args, rv_cat, cat_I, cat_L, cat_S]) (fun x hx => by subst hx; exact jJ7_fill_d0a16 x a0 l1 h)
-- java/lang/Integer.numberOfTrailingZeros(I)I
abbrev qJ6_numberOfTrailingZeros_0f7a4 : MT := (cJ6_numberOfTrailingZeros_0f7a4, RJ6, "numberOfTrailingZeros", (some .int), 0, 0, 2)
def J6_numberOfTrailingZeros_0f7a4_B74 (i0 : Int32) (i1 : Int32) (h : AH) : Option (Int32 × AH) :=
  some (i1 + ((i0.toUInt32 >>> ((nI 1).toUInt32 &&& Int32.toUInt32 31)).toInt32), h)
theorem jJ6_numberOfTrailingZeros_0f7a4_B74 (x : CT) (i0 : Int32) (i1 : Int32) (h : AH) : J x qJ6_numberOfTrailingZeros_0f7a4 ZI 74 [(0, .int i0), (1, .int i1)] [] h (J6_numberOfTrailingZeros_0f7a4_B74 i0 i1 h) := by
  unfold J6_numberOfTrailingZeros_0f7a4_B74
  refine J_iload_n 1 dJ6_numberOfTrailingZeros_0f7a4_74 rfl ?_
  refine J_iload_n 0 dJ6_numberOfTrailingZeros_0f7a4_75 rfl ?_
  refine J_iconst (v := nI 1) dJ6_numberOfTrailingZeros_0f7a4_76 rfl ?_
  refine J_iushr dJ6_numberOfTrailingZeros_0f7a4_77 ?_
  refine J_iadd dJ6_numberOfTrailingZeros_0f7a4_78 ?_
  exact J_iret dJ6_numberOfTrailingZeros_0f7a4_79
def J6_numberOfTrailingZeros_0f7a4_B62 (i0 : Int32) (i1 : Int32) (h : AH) : Option (Int32 × AH) :=
  if i0 ≤ (nI 4) then (
    J6_numberOfTrailingZeros_0f7a4_B74 i0 i1 h
  ) else (
    LT (i1 + nI 2) fun v1 =>
    LT ((i0.toUInt32 >>> ((nI 2).toUInt32 &&& Int32.toUInt32 31)).toInt32) fun v2 =>
    J6_numberOfTrailingZeros_0f7a4_B74 v2 v1 h
  )
theorem jJ6_numberOfTrailingZeros_0f7a4_B62 (x : CT) (i0 : Int32) (i1 : Int32) (h : AH) : J x qJ6_numberOfTrailingZeros_0f7a4 ZI 62 [(0, .int i0), (1, .int i1)] [] h (J6_numberOfTrailingZeros_0f7a4_B62 i0 i1 h) := by
  unfold J6_numberOfTrailingZeros_0f7a4_B62
  refine J_iload_n 0 dJ6_numberOfTrailingZeros_0f7a4_62 rfl ?_
  refine J_iconst (v := nI 4) dJ6_numberOfTrailingZeros_0f7a4_63 rfl ?_
  refine J_icmp_le (tgt := 74) dJ6_numberOfTrailingZeros_0f7a4_64 rfl ?_ ?_
  · exact (jJ6_numberOfTrailingZeros_0f7a4_B74 x i0 i1 h)
  · refine J_iincL (u := i1 + nI 2) 1 dJ6_numberOfTrailingZeros_0f7a4_67 rfl rfl (by decide) (SD.a (lvr := [(0, .int i0)]) [0] rfl rfl) (fun v1 => ?_)
    refine J_iload_n 1 dJ6_numberOfTrailingZeros_0f7a4_70 rfl ?_
    refine J_iconst (v := nI 2) dJ6_numberOfTrailingZeros_0f7a4_71 rfl ?_
    refine J_iushr dJ6_numberOfTrailingZeros_0f7a4_72 ?_
    refine J_LTi (fun v2 => ?_)
    refine J_istore_n dJ6_numberOfTrailingZeros_0f7a4_73 (by decide) (SD.a (lvr := [(1, .int v1)]) [0] rfl rfl) ?_
    exact (jJ6_numberOfTrailingZeros_0f7a4_B74 x v2 v1 h)
def J6_numberOfTrailingZeros_0f7a4_B49 (i0 : Int32) (i1 : Int32) (h : AH) : Option (Int32 × AH) :=
  if i0 ≤ (nI 16) then (
    J6_numberOfTrailingZeros_0f7a4_B62 i0 i1 h
  ) else (
    LT (i1 + nI 4) fun v1 =>
    LT ((i0.toUInt32 >>> ((nI 4).toUInt32 &&& Int32.toUInt32 31)).toInt32) fun v2 =>
    J6_numberOfTrailingZeros_0f7a4_B62 v2 v1 h
  )
theorem jJ6_numberOfTrailingZeros_0f7a4_B49 (x : CT) (i0 : Int32) (i1 : Int32) (h : AH) : J x qJ6_numberOfTrailingZeros_0f7a4 ZI 49 [(0, .int i0), (1, .int i1)] [] h (J6_numberOfTrailingZeros_0f7a4_B49 i0 i1 h) := by
  unfold J6_numberOfTrailingZeros_0f7a4_B49
  refine J_iload_n 0 dJ6_numberOfTrailingZeros_0f7a4_49 rfl ?_
  refine J_bipush (v := nI 16) dJ6_numberOfTrailingZeros_0f7a4_50 rfl ?_
  refine J_icmp_le (tgt := 62) dJ6_numberOfTrailingZeros_0f7a4_52 rfl ?_ ?_
  · exact (jJ6_numberOfTrailingZeros_0f7a4_B62 x i0 i1 h)
  · refine J_iincL (u := i1 + nI 4) 1 dJ6_numberOfTrailingZeros_0f7a4_55 rfl rfl (by decide) (SD.a (lvr := [(0, .int i0)]) [0] rfl rfl) (fun v1 => ?_)
    refine J_iload_n 1 dJ6_numberOfTrailingZeros_0f7a4_58 rfl ?_
    refine J_iconst (v := nI 4) dJ6_numberOfTrailingZeros_0f7a4_59 rfl ?_
    refine J_iushr dJ6_numberOfTrailingZeros_0f7a4_60 ?_
    refine J_LTi (fun v2 => ?_)
    refine J_istore_n dJ6_numberOfTrailingZeros_0f7a4_61 (by decide) (SD.a (lvr := [(1, .int v1)]) [0] rfl rfl) ?_
    exact (jJ6_numberOfTrailingZeros_0f7a4_B62 x v2 v1 h)
def J6_numberOfTrailingZeros_0f7a4_B34 (i0 : Int32) (i1 : Int32) (h : AH) : Option (Int32 × AH) :=
  if i0 ≤ (nI 256) then (
    J6_numberOfTrailingZeros_0f7a4_B49 i0 i1 h
  ) else (
    LT (i1 + nI 8) fun v1 =>
    LT ((i0.toUInt32 >>> ((nI 8).toUInt32 &&& Int32.toUInt32 31)).toInt32) fun v2 =>
    J6_numberOfTrailingZeros_0f7a4_B49 v2 v1 h
  )
theorem jJ6_numberOfTrailingZeros_0f7a4_B34 (x : CT) (i0 : Int32) (i1 : Int32) (h : AH) : J x qJ6_numberOfTrailingZeros_0f7a4 ZI 34 [(0, .int i0), (1, .int i1)] [] h (J6_numberOfTrailingZeros_0f7a4_B34 i0 i1 h) := by
  unfold J6_numberOfTrailingZeros_0f7a4_B34
  refine J_iload_n 0 dJ6_numberOfTrailingZeros_0f7a4_34 rfl ?_
  refine J_sipush (v := nI 256) dJ6_numberOfTrailingZeros_0f7a4_35 rfl ?_
  refine J_icmp_le (tgt := 49) dJ6_numberOfTrailingZeros_0f7a4_38 rfl ?_ ?_
  · exact (jJ6_numberOfTrailingZeros_0f7a4_B49 x i0 i1 h)
  · refine J_iincL (u := i1 + nI 8) 1 dJ6_numberOfTrailingZeros_0f7a4_41 rfl rfl (by decide) (SD.a (lvr := [(0, .int i0)]) [0] rfl rfl) (fun v1 => ?_)
    refine J_iload_n 1 dJ6_numberOfTrailingZeros_0f7a4_44 rfl ?_
    refine J_bipush (v := nI 8) dJ6_numberOfTrailingZeros_0f7a4_45 rfl ?_
    refine J_iushr dJ6_numberOfTrailingZeros_0f7a4_47 ?_
    refine J_LTi (fun v2 => ?_)
    refine J_istore_n dJ6_numberOfTrailingZeros_0f7a4_48 (by decide) (SD.a (lvr := [(1, .int v1)]) [0] rfl rfl) ?_
    exact (jJ6_numberOfTrailingZeros_0f7a4_B49 x v2 v1 h)
def J6_numberOfTrailingZeros_0f7a4_f (i0 : Int32) (h : AH) : Option (Int32 × AH) :=
  LT ((i0 ^^^ (-1)) &&& (i0 - (nI 1))) fun v1 =>
  if 0 < v1 then (
    if v1 ≤ (nI 65536) then (
      J6_numberOfTrailingZeros_0f7a4_B34 v1 (nI 1) h
    ) else (
      LT ((nI 1) + nI 16) fun v2 =>
      LT ((v1.toUInt32 >>> ((nI 16).toUInt32 &&& Int32.toUInt32 31)).toInt32) fun v3 =>
      J6_numberOfTrailingZeros_0f7a4_B34 v3 v2 h
    )
  ) else (
    some (v1 &&& (nI 32), h)
  )
theorem jJ6_numberOfTrailingZeros_0f7a4 (x : CT) (i0 : Int32) (h : AH) : J x qJ6_numberOfTrailingZeros_0f7a4 ZI 0 [(0, .int i0)] [] h (J6_numberOfTrailingZeros_0f7a4_f i0 h) := by
  unfold J6_numberOfTrailingZeros_0f7a4_f
  refine J_iload_n 0 dJ6_numberOfTrailingZeros_0f7a4_0 rfl ?_
  refine J_iconst (v := (-1)) dJ6_numberOfTrailingZeros_0f7a4_1 rfl ?_
  refine J_ixor dJ6_numberOfTrailingZeros_0f7a4_2 ?_
  refine J_iload_n 0 dJ6_numberOfTrailingZeros_0f7a4_3 rfl ?_
  refine J_iconst (v := nI 1) dJ6_numberOfTrailingZeros_0f7a4_4 rfl ?_
  refine J_isub dJ6_numberOfTrailingZeros_0f7a4_5 ?_
  refine J_iand dJ6_numberOfTrailingZeros_0f7a4_6 ?_
  refine J_LTi (fun v1 => ?_)
  refine J_istore_n dJ6_numberOfTrailingZeros_0f7a4_7 (by decide) (SD.a (lvr := []) [] rfl rfl) ?_
  refine J_iload_n 0 dJ6_numberOfTrailingZeros_0f7a4_8 rfl ?_
  refine J_if_gt (tgt := 17) dJ6_numberOfTrailingZeros_0f7a4_9 rfl ?_ ?_
  · refine J_iconst (v := nI 1) dJ6_numberOfTrailingZeros_0f7a4_17 rfl ?_
    refine J_istore_n dJ6_numberOfTrailingZeros_0f7a4_18 (by decide) (SD.a (lvr := [(0, .int v1)]) [0] rfl rfl) ?_
    refine J_iload_n 1 dJ6_numberOfTrailingZeros_0f7a4_19 rfl ?_
    refine J_ldcw (v := nI 65536) dJ6_numberOfTrailingZeros_0f7a4_20 (kw_5_31 : Cond.constant _ _ (nI 65536) ∈ WG) ?_
    refine J_icmp_le (tgt := 34) dJ6_numberOfTrailingZeros_0f7a4_23 rfl ?_ ?_
    · exact J_sub [1, 0] rfl (jJ6_numberOfTrailingZeros_0f7a4_B34 x v1 (nI 1) h)
    · refine J_iincL (u := (nI 1) + nI 16) 0 dJ6_numberOfTrailingZeros_0f7a4_26 rfl rfl (by decide) (SD.a (lvr := [(0, .int v1)]) [1] rfl rfl) (fun v2 => ?_)
      refine J_iload_n 1 dJ6_numberOfTrailingZeros_0f7a4_29 rfl ?_
      refine J_bipush (v := nI 16) dJ6_numberOfTrailingZeros_0f7a4_30 rfl ?_
      refine J_iushr dJ6_numberOfTrailingZeros_0f7a4_32 ?_
      refine J_LTi (fun v3 => ?_)
      refine J_istore_n dJ6_numberOfTrailingZeros_0f7a4_33 (by decide) (SD.a (lvr := [(1, .int v2)]) [0] rfl rfl) ?_
      exact (jJ6_numberOfTrailingZeros_0f7a4_B34 x v3 v2 h)
  · refine J_iload_n 0 dJ6_numberOfTrailingZeros_0f7a4_12 rfl ?_
    refine J_bipush (v := nI 32) dJ6_numberOfTrailingZeros_0f7a4_13 rfl ?_
    refine J_iand dJ6_numberOfTrailingZeros_0f7a4_15 ?_
    exact J_iret dJ6_numberOfTrailingZeros_0f7a4_16
theorem ctJ6_numberOfTrailingZeros_0f7a4 (l : Launch) (w : WT) (i0 : Int32) (h : AH) : CM l w yJ6_numberOfTrailingZeros_0f7a4 cJ6_numberOfTrailingZeros_0f7a4 2 (some .int) 0 0 KI [.int i0] h (J6_numberOfTrailingZeros_0f7a4_f i0 h) :=
  CM.of (by decide +kernel) (by simp [lg_sl, rv_cat, cat_I, cat_L, cat_S]) (lv := [(0, .int i0)]) (by simp [lv_args, rv_cat, cat_I, cat_L, cat_S]) (fun x hx => by subst hx; exact jJ6_numberOfTrailingZeros_0f7a4 x i0 h)
-- java/lang/Long.numberOfTrailingZeros(J)I
abbrev qJ13_numberOfTrailingZeros_95d88 : MT := (cJ13_numberOfTrailingZeros_95d88, RJ13, "numberOfTrailingZeros", (some .int), 1, 21, 3)
def J13_numberOfTrailingZeros_95d88_f (l0 : Int64) (h : AH) : Option (Int32 × AH) :=
  LT (l0.toInt32) fun v1 =>
  if v1 = 0 then (
    BN (J6_numberOfTrailingZeros_0f7a4_f (((l0.toUInt64 >>> ((nI 32).toInt64.toUInt64 &&& Int64.toUInt64 63)).toInt64).toInt32) h) fun v5 h4 =>
    some ((nI 32) + v5, h4)
  ) else (
    BN (J6_numberOfTrailingZeros_0f7a4_f v1 h) fun v3 h2 =>
    some (v3, h2)
  )
theorem jJ13_numberOfTrailingZeros_95d88 (x : CT) (l0 : Int64) (h : AH) : J x qJ13_numberOfTrailingZeros_95d88 ZI 0 [(0, .long l0)] [] h (J13_numberOfTrailingZeros_95d88_f l0 h) := by
  unfold J13_numberOfTrailingZeros_95d88_f
  refine J_lload_n 0 dJ13_numberOfTrailingZeros_95d88_0 rfl ?_
  refine J_l2i dJ13_numberOfTrailingZeros_95d88_1 ?_
  refine J_LTi (fun v1 => ?_)
  refine J_istore_n dJ13_numberOfTrailingZeros_95d88_2 (by decide) (SD.a (lvr := [(0, .long l0)]) [0] rfl rfl) ?_
  refine J_iload_n 0 dJ13_numberOfTrailingZeros_95d88_3 rfl ?_
  refine J_if_ne (tgt := 21) dJ13_numberOfTrailingZeros_95d88_4 rfl ?_ ?_
  · refine J_iload_n 0 dJ13_numberOfTrailingZeros_95d88_21 rfl ?_
    refine J.callS (n := 1) (As := [.int v1]) (ctJ6_numberOfTrailingZeros_0f7a4 (lx x) (wx x) v1 h) kw_5_30 kw_5_189 kw_5_29 kw_1_27 (by decide +kernel) rfl (by decide) (Nat.zero_le _) rfl dJ13_numberOfTrailingZeros_95d88_22 (fun v3 h2 => ?_)
    show J x _ _ 25 _ [.int v3] h2 _
    exact J_iret dJ13_numberOfTrailingZeros_95d88_25
  · refine J_bipush (v := nI 32) dJ13_numberOfTrailingZeros_95d88_7 rfl ?_
    refine J_lload_n 1 dJ13_numberOfTrailingZeros_95d88_9 rfl ?_
    refine J_bipush (v := nI 32) dJ13_numberOfTrailingZeros_95d88_10 rfl ?_
    refine J_lushr dJ13_numberOfTrailingZeros_95d88_12 ?_
    refine J_l2i dJ13_numberOfTrailingZeros_95d88_13 ?_
    refine J.callS (n := 1) (As := [.int (((l0.toUInt64 >>> ((nI 32).toInt64.toUInt64 &&& Int64.toUInt64 63)).toInt64).toInt32)]) (ctJ6_numberOfTrailingZeros_0f7a4 (lx x) (wx x) (((l0.toUInt64 >>> ((nI 32).toInt64.toUInt64 &&& Int64.toUInt64 63)).toInt64).toInt32) h) kw_5_30 kw_5_189 kw_5_29 kw_1_27 (by decide +kernel) rfl (by decide) (by simp [rv_cat, cat_I, cat_L, cat_S]) rfl dJ13_numberOfTrailingZeros_95d88_14 (fun v5 h4 => ?_)
    show J x _ _ 17 _ [.int v5, .int (nI 32)] h4 _
    refine J_iadd dJ13_numberOfTrailingZeros_95d88_17 ?_
    refine J_goto (tgt := 25) dJ13_numberOfTrailingZeros_95d88_18 rfl ?_
    exact J_iret dJ13_numberOfTrailingZeros_95d88_25
theorem ctJ13_numberOfTrailingZeros_95d88 (l : Launch) (w : WT) (l0 : Int64) (h : AH) : CM l w yJ13_numberOfTrailingZeros_95d88 cJ13_numberOfTrailingZeros_95d88 3 (some .int) 1 21 KI [.long l0] h (J13_numberOfTrailingZeros_95d88_f l0 h) :=
  CM.of (by decide +kernel) (by simp [lg_sl, rv_cat, cat_I, cat_L, cat_S]) (lv := [(0, .long l0)]) (by simp [lv_args, rv_cat, cat_I, cat_L, cat_S]) (fun x hx => by subst hx; exact jJ13_numberOfTrailingZeros_95d88 x l0 h)
-- java/lang/Long.bitCount(J)I
abbrev qJ13_bitCount_95d88 : MT := (cJ13_bitCount_95d88, RJ13, "bitCount", (some .int), 0, 0, 2)
def J13_bitCount_95d88_f (l0 : Int64) (h : AH) : Option (Int32 × AH) :=
  LT (l0 - (((l0.toUInt64 >>> ((nI 1).toInt64.toUInt64 &&& Int64.toUInt64 63)).toInt64) &&& (6148914691236517205))) fun w1 =>
  LT ((w1 &&& (3689348814741910323)) + (((w1.toUInt64 >>> ((nI 2).toInt64.toUInt64 &&& Int64.toUInt64 63)).toInt64) &&& (3689348814741910323))) fun w2 =>
  LT ((w2 + ((w2.toUInt64 >>> ((nI 4).toInt64.toUInt64 &&& Int64.toUInt64 63)).toInt64)) &&& (1085102592571150095)) fun w3 =>
  LT (w3 + ((w3.toUInt64 >>> ((nI 8).toInt64.toUInt64 &&& Int64.toUInt64 63)).toInt64)) fun w4 =>
  LT (w4 + ((w4.toUInt64 >>> ((nI 16).toInt64.toUInt64 &&& Int64.toUInt64 63)).toInt64)) fun w5 =>
  LT (w5 + ((w5.toUInt64 >>> ((nI 32).toInt64.toUInt64 &&& Int64.toUInt64 63)).toInt64)) fun w6 =>
  some ((w6.toInt32) &&& (nI 127), h)
theorem jJ13_bitCount_95d88 (x : CT) (l0 : Int64) (h : AH) : J x qJ13_bitCount_95d88 ZI 0 [(0, .long l0)] [] h (J13_bitCount_95d88_f l0 h) := by
  unfold J13_bitCount_95d88_f
  refine J_lload_n 0 dJ13_bitCount_95d88_0 rfl ?_
  refine J_lload_n 0 dJ13_bitCount_95d88_1 rfl ?_
  refine J_iconst (v := nI 1) dJ13_bitCount_95d88_2 rfl ?_
  refine J_lushr dJ13_bitCount_95d88_3 ?_
  refine J_ldc2 (v := (6148914691236517205)) dJ13_bitCount_95d88_4 kw_5_193 ?_
  refine J_land dJ13_bitCount_95d88_7 ?_
  refine J_lsub dJ13_bitCount_95d88_8 ?_
  refine J_LTl (fun w1 => ?_)
  refine J_lstore_n dJ13_bitCount_95d88_9 (by decide) (SD.a (lvr := []) [] rfl rfl) rfl ?_
  refine J_lload_n 0 dJ13_bitCount_95d88_10 rfl ?_
  refine J_ldc2 (v := (3689348814741910323)) dJ13_bitCount_95d88_11 kw_5_194 ?_
  refine J_land dJ13_bitCount_95d88_14 ?_
  refine J_lload_n 0 dJ13_bitCount_95d88_15 rfl ?_
  refine J_iconst (v := nI 2) dJ13_bitCount_95d88_16 rfl ?_
  refine J_lushr dJ13_bitCount_95d88_17 ?_
  refine J_ldc2 (v := (3689348814741910323)) dJ13_bitCount_95d88_18 kw_5_194 ?_
  refine J_land dJ13_bitCount_95d88_21 ?_
  refine J_ladd dJ13_bitCount_95d88_22 ?_
  refine J_LTl (fun w2 => ?_)
  refine J_lstore_n dJ13_bitCount_95d88_23 (by decide) (SD.a (lvr := []) [] rfl rfl) rfl ?_
  refine J_lload_n 0 dJ13_bitCount_95d88_24 rfl ?_
  refine J_lload_n 0 dJ13_bitCount_95d88_25 rfl ?_
  refine J_iconst (v := nI 4) dJ13_bitCount_95d88_26 rfl ?_
  refine J_lushr dJ13_bitCount_95d88_27 ?_
  refine J_ladd dJ13_bitCount_95d88_28 ?_
  refine J_ldc2 (v := (1085102592571150095)) dJ13_bitCount_95d88_29 kw_5_195 ?_
  refine J_land dJ13_bitCount_95d88_32 ?_
  refine J_LTl (fun w3 => ?_)
  refine J_lstore_n dJ13_bitCount_95d88_33 (by decide) (SD.a (lvr := []) [] rfl rfl) rfl ?_
  refine J_lload_n 0 dJ13_bitCount_95d88_34 rfl ?_
  refine J_lload_n 0 dJ13_bitCount_95d88_35 rfl ?_
  refine J_bipush (v := nI 8) dJ13_bitCount_95d88_36 rfl ?_
  refine J_lushr dJ13_bitCount_95d88_38 ?_
  refine J_ladd dJ13_bitCount_95d88_39 ?_
  refine J_LTl (fun w4 => ?_)
  refine J_lstore_n dJ13_bitCount_95d88_40 (by decide) (SD.a (lvr := []) [] rfl rfl) rfl ?_
  refine J_lload_n 0 dJ13_bitCount_95d88_41 rfl ?_
  refine J_lload_n 0 dJ13_bitCount_95d88_42 rfl ?_
  refine J_bipush (v := nI 16) dJ13_bitCount_95d88_43 rfl ?_
  refine J_lushr dJ13_bitCount_95d88_45 ?_
  refine J_ladd dJ13_bitCount_95d88_46 ?_
  refine J_LTl (fun w5 => ?_)
  refine J_lstore_n dJ13_bitCount_95d88_47 (by decide) (SD.a (lvr := []) [] rfl rfl) rfl ?_
  refine J_lload_n 0 dJ13_bitCount_95d88_48 rfl ?_
  refine J_lload_n 0 dJ13_bitCount_95d88_49 rfl ?_
  refine J_bipush (v := nI 32) dJ13_bitCount_95d88_50 rfl ?_
  refine J_lushr dJ13_bitCount_95d88_52 ?_
  refine J_ladd dJ13_bitCount_95d88_53 ?_
  refine J_LTl (fun w6 => ?_)
  refine J_lstore_n dJ13_bitCount_95d88_54 (by decide) (SD.a (lvr := []) [] rfl rfl) rfl ?_
  refine J_lload_n 0 dJ13_bitCount_95d88_55 rfl ?_
  refine J_l2i dJ13_bitCount_95d88_56 ?_
  refine J_bipush (v := nI 127) dJ13_bitCount_95d88_57 rfl ?_
  refine J_iand dJ13_bitCount_95d88_59 ?_
  exact J_iret dJ13_bitCount_95d88_60
theorem ctJ13_bitCount_95d88 (l : Launch) (w : WT) (l0 : Int64) (h : AH) : CM l w yJ13_bitCount_95d88 cJ13_bitCount_95d88 2 (some .int) 0 0 KI [.long l0] h (J13_bitCount_95d88_f l0 h) :=
  CM.of (by decide +kernel) (by simp [lg_sl, rv_cat, cat_I, cat_L, cat_S]) (lv := [(0, .long l0)]) (by simp [lv_args, rv_cat, cat_I, cat_L, cat_S]) (fun x hx => by subst hx; exact jJ13_bitCount_95d88 x l0 h)
-- java/lang/Integer.bitCount(I)I
abbrev qJ6_bitCount_0f7a4 : MT := (cJ6_bitCount_0f7a4, RJ6, "bitCount", (some .int), 0, 0, 1)
def J6_bitCount_0f7a4_f (i0 : Int32) (h : AH) : Option (Int32 × AH) :=
  LT (i0 - (((i0.toUInt32 >>> ((nI 1).toUInt32 &&& Int32.toUInt32 31)).toInt32) &&& (nI 1431655765))) fun v1 =>
  LT ((v1 &&& (nI 858993459)) + (((v1.toUInt32 >>> ((nI 2).toUInt32 &&& Int32.toUInt32 31)).toInt32) &&& (nI 858993459))) fun v2 =>
  LT ((v2 + ((v2.toUInt32 >>> ((nI 4).toUInt32 &&& Int32.toUInt32 31)).toInt32)) &&& (nI 252645135)) fun v3 =>
  LT (v3 + ((v3.toUInt32 >>> ((nI 8).toUInt32 &&& Int32.toUInt32 31)).toInt32)) fun v4 =>
  LT (v4 + ((v4.toUInt32 >>> ((nI 16).toUInt32 &&& Int32.toUInt32 31)).toInt32)) fun v5 =>
  some (v5 &&& (nI 63), h)
theorem jJ6_bitCount_0f7a4 (x : CT) (i0 : Int32) (h : AH) : J x qJ6_bitCount_0f7a4 ZI 0 [(0, .int i0)] [] h (J6_bitCount_0f7a4_f i0 h) := by
  unfold J6_bitCount_0f7a4_f
  refine J_iload_n 0 dJ6_bitCount_0f7a4_0 rfl ?_
  refine J_iload_n 0 dJ6_bitCount_0f7a4_1 rfl ?_
  refine J_iconst (v := nI 1) dJ6_bitCount_0f7a4_2 rfl ?_
  refine J_iushr dJ6_bitCount_0f7a4_3 ?_
  refine J_ldcw (v := nI 1431655765) dJ6_bitCount_0f7a4_4 (kw_6_37 : Cond.constant _ _ (nI 1431655765) ∈ WG) ?_
  refine J_iand dJ6_bitCount_0f7a4_7 ?_
  refine J_isub dJ6_bitCount_0f7a4_8 ?_
  refine J_LTi (fun v1 => ?_)
  refine J_istore_n dJ6_bitCount_0f7a4_9 (by decide) (SD.a (lvr := []) [] rfl rfl) ?_
  refine J_iload_n 0 dJ6_bitCount_0f7a4_10 rfl ?_
  refine J_ldcw (v := nI 858993459) dJ6_bitCount_0f7a4_11 (kw_6_38 : Cond.constant _ _ (nI 858993459) ∈ WG) ?_
  refine J_iand dJ6_bitCount_0f7a4_14 ?_
  refine J_iload_n 0 dJ6_bitCount_0f7a4_15 rfl ?_
  refine J_iconst (v := nI 2) dJ6_bitCount_0f7a4_16 rfl ?_
  refine J_iushr dJ6_bitCount_0f7a4_17 ?_
  refine J_ldcw (v := nI 858993459) dJ6_bitCount_0f7a4_18 (kw_6_38 : Cond.constant _ _ (nI 858993459) ∈ WG) ?_
  refine J_iand dJ6_bitCount_0f7a4_21 ?_
  refine J_iadd dJ6_bitCount_0f7a4_22 ?_
  refine J_LTi (fun v2 => ?_)
  refine J_istore_n dJ6_bitCount_0f7a4_23 (by decide) (SD.a (lvr := []) [] rfl rfl) ?_
  refine J_iload_n 0 dJ6_bitCount_0f7a4_24 rfl ?_
  refine J_iload_n 0 dJ6_bitCount_0f7a4_25 rfl ?_
  refine J_iconst (v := nI 4) dJ6_bitCount_0f7a4_26 rfl ?_
  refine J_iushr dJ6_bitCount_0f7a4_27 ?_
  refine J_iadd dJ6_bitCount_0f7a4_28 ?_
  refine J_ldcw (v := nI 252645135) dJ6_bitCount_0f7a4_29 (kw_6_39 : Cond.constant _ _ (nI 252645135) ∈ WG) ?_
  refine J_iand dJ6_bitCount_0f7a4_32 ?_
  refine J_LTi (fun v3 => ?_)
  refine J_istore_n dJ6_bitCount_0f7a4_33 (by decide) (SD.a (lvr := []) [] rfl rfl) ?_
  refine J_iload_n 0 dJ6_bitCount_0f7a4_34 rfl ?_
  refine J_iload_n 0 dJ6_bitCount_0f7a4_35 rfl ?_
  refine J_bipush (v := nI 8) dJ6_bitCount_0f7a4_36 rfl ?_
  refine J_iushr dJ6_bitCount_0f7a4_38 ?_
  refine J_iadd dJ6_bitCount_0f7a4_39 ?_
  refine J_LTi (fun v4 => ?_)
  refine J_istore_n dJ6_bitCount_0f7a4_40 (by decide) (SD.a (lvr := []) [] rfl rfl) ?_
  refine J_iload_n 0 dJ6_bitCount_0f7a4_41 rfl ?_
  refine J_iload_n 0 dJ6_bitCount_0f7a4_42 rfl ?_
  refine J_bipush (v := nI 16) dJ6_bitCount_0f7a4_43 rfl ?_
  refine J_iushr dJ6_bitCount_0f7a4_45 ?_
  refine J_iadd dJ6_bitCount_0f7a4_46 ?_
  refine J_LTi (fun v5 => ?_)
  refine J_istore_n dJ6_bitCount_0f7a4_47 (by decide) (SD.a (lvr := []) [] rfl rfl) ?_
  refine J_iload_n 0 dJ6_bitCount_0f7a4_48 rfl ?_
  refine J_bipush (v := nI 63) dJ6_bitCount_0f7a4_49 rfl ?_
  refine J_iand dJ6_bitCount_0f7a4_51 ?_
  exact J_iret dJ6_bitCount_0f7a4_52
theorem ctJ6_bitCount_0f7a4 (l : Launch) (w : WT) (i0 : Int32) (h : AH) : CM l w yJ6_bitCount_0f7a4 cJ6_bitCount_0f7a4 1 (some .int) 0 0 KI [.int i0] h (J6_bitCount_0f7a4_f i0 h) :=
  CM.of (by decide +kernel) (by simp [lg_sl, rv_cat, cat_I, cat_L, cat_S]) (lv := [(0, .int i0)]) (by simp [lv_args, rv_cat, cat_I, cat_L, cat_S]) (fun x hx => by subst hx; exact jJ6_bitCount_0f7a4 x i0 h)
-- FallTrials$Book.<init>()V
abbrev qX0_init : MT := (cX0_init, RX0, "<init>", none, 2, 40, 2)
def X0_init_B89 : Nat → Nat → Int32 → AH → Option (Unit × AH)
  | 0, _, _, _ => none
  | n + 1, a0, i1, h =>
    if (nI 6) ≤ i1 then (
      some ((), h)
    ) else (
      G (xc h a0 = 0) <|
      LT (xn h) fun r3 =>
      LT (pN h 1 9) fun h2 =>
      G (xc h2 r3 ≠ 99) <|
      BN (X1_init_f r3 h2) fun _ h5 =>
      G (xc h5 (xR h a0 11) = 20) <|
      G (gx i1 (xz h5 (xR h a0 11))) <|
      G (xc h5 r3 = 1) <|
      LT (pR h5 (xR h a0 11) i1.toNatClampNeg r3) fun h8 =>
      LT (i1 + nI 1) fun v10 =>
      X0_init_B89 n a0 v10 h8
    )
theorem jX0_init_B89 (x : CT) : ∀ (n : Nat) (a0 : Nat) (i1 : Int32) (h : AH), J x qX0_init ZV 89 [(0, rv (zx x) a0), (1, .int i1)] [] h (X0_init_B89 n a0 i1 h) := by
  intro n
  induction n with
  | zero => intro a0 i1 h; exact J_none
  | succ n ih =>
    intro a0 i1 h
    unfold X0_init_B89
    refine J_iload_n 1 dX0_init_89 rfl ?_
    refine J_bipush (v := nI 6) dX0_init_90 rfl ?_
    refine J_icmp_ge (tgt := 114) dX0_init_92 rfl ?_ ?_
    · exact J_vret dX0_init_114
    · refine J_aload_n 0 dX0_init_95 rv_is rfl ?_
      refine J_G (fun g1 => ?_)
      refine J_getR kc_0 11 (by decide) rfl rfl kw_1_145 dX0_init_96 g1 ?_
      refine J_iload_n 1 dX0_init_99 rfl ?_
      refine J_new kc_1 kw_1_43 kw_1_45 kw_1_3 dX0_init_100 ?_
      refine J_LTr (fun r3 => ?_)
      refine J_LTh (fun h2 => ?_)
      refine J_dup dX0_init_103 rv_cat ?_
      refine J_G (fun g4 => ?_)
      refine J.callIN (n := 0) (As := []) (ctX1_init (lx x) (wx x) r3 h2) kw_1_48 kn_0 kw_1_47 kw_1_3 (by decide +kernel) rfl (by decide) (by simp [rv_cat, cat_I, cat_L, cat_S]) rfl dX0_init_104 g4 (fun _ h5 => ?_)
      show J x _ _ 107 _ [rv (zx x) r3, .int i1, rv (zx x) (xR h a0 11)] h5 _
      refine J_G (fun g6 => ?_)
      refine J_G (fun g7 => ?_)
      refine J_G (fun g9 => ?_)
      refine J_aast kc_1 (t := 20) (t0 := 4) (by decide) (by decide) (fun _ => rfl) dX0_init_107 g6 g7 g9 ?_
      refine J_LTh (fun h8 => ?_)
      refine J_iincL (u := i1 + nI 1) 1 dX0_init_108 rfl rfl (by decide) (SD.c (lvr := [(0, rv (zx x) a0)]) [0] rfl rfl 0 rfl rfl rv_cat) (fun v10 => ?_)
      refine J_goto (tgt := 89) dX0_init_111 rfl ?_
      exact J_sub [1, 0] rfl (ih a0 v10 h8)
def X0_init_B87 (a0 : Nat) (h : AH) : Option (Unit × AH) :=
  X0_init_B89 FU a0 (nI 0) h
theorem jX0_init_B87 (x : CT) (a0 : Nat) (h : AH) : J x qX0_init ZV 87 [(0, rv (zx x) a0)] [] h (X0_init_B87 a0 h) := by
  unfold X0_init_B87
  refine J_iconst (v := nI 0) dX0_init_87 rfl ?_
  refine J_istore_n dX0_init_88 (by decide) (SD.c (lvr := [(0, rv (zx x) a0)]) [0] rfl rfl 0 rfl rfl rv_cat) ?_
  exact J_sub [1, 0] rfl (jX0_init_B89 x FU a0 (nI 0) h)
def X0_init_B62 : Nat → Nat → Int32 → AH → Option (Unit × AH)
  | 0, _, _, _ => none
  | n + 1, a0, i1, h =>
    if (nI 10) ≤ i1 then (
      X0_init_B87 a0 h
    ) else (
      G (xc h a0 = 0) <|
      LT (xn h) fun r3 =>
      LT (pN h 1 9) fun h2 =>
      G (xc h2 r3 ≠ 99) <|
      BN (X1_init_f r3 h2) fun _ h5 =>
      G (xc h5 (xR h a0 10) = 20) <|
      G (gx i1 (xz h5 (xR h a0 10))) <|
      G (xc h5 r3 = 1) <|
      LT (pR h5 (xR h a0 10) i1.toNatClampNeg r3) fun h8 =>
      LT (i1 + nI 1) fun v10 =>
      X0_init_B62 n a0 v10 h8
    )
theorem jX0_init_B62 (x : CT) : ∀ (n : Nat) (a0 : Nat) (i1 : Int32) (h : AH), J x qX0_init ZV 62 [(0, rv (zx x) a0), (1, .int i1)] [] h (X0_init_B62 n a0 i1 h) := by
  intro n
  induction n with
  | zero => intro a0 i1 h; exact J_none
  | succ n ih =>
    intro a0 i1 h
    unfold X0_init_B62
    refine J_iload_n 1 dX0_init_62 rfl ?_
    refine J_bipush (v := nI 10) dX0_init_63 rfl ?_
    refine J_icmp_ge (tgt := 87) dX0_init_65 rfl ?_ ?_
    · exact J_sub [0] rfl (jX0_init_B87 x a0 h)
    · refine J_aload_n 0 dX0_init_68 rv_is rfl ?_
      refine J_G (fun g1 => ?_)
      refine J_getR kc_0 10 (by decide) rfl rfl kw_1_140 dX0_init_69 g1 ?_
      refine J_iload_n 1 dX0_init_72 rfl ?_
      refine J_new kc_1 kw_1_43 kw_1_45 kw_1_3 dX0_init_73 ?_
      refine J_LTr (fun r3 => ?_)
      refine J_LTh (fun h2 => ?_)
      refine J_dup dX0_init_76 rv_cat ?_
      refine J_G (fun g4 => ?_)
      refine J.callIN (n := 0) (As := []) (ctX1_init (lx x) (wx x) r3 h2) kw_1_48 kn_0 kw_1_47 kw_1_3 (by decide +kernel) rfl (by decide) (by simp [rv_cat, cat_I, cat_L, cat_S]) rfl dX0_init_77 g4 (fun _ h5 => ?_)
      show J x _ _ 80 _ [rv (zx x) r3, .int i1, rv (zx x) (xR h a0 10)] h5 _
      refine J_G (fun g6 => ?_)
      refine J_G (fun g7 => ?_)
      refine J_G (fun g9 => ?_)
      refine J_aast kc_1 (t := 20) (t0 := 4) (by decide) (by decide) (fun _ => rfl) dX0_init_80 g6 g7 g9 ?_
      refine J_LTh (fun h8 => ?_)
      refine J_iincL (u := i1 + nI 1) 1 dX0_init_81 rfl rfl (by decide) (SD.c (lvr := [(0, rv (zx x) a0)]) [0] rfl rfl 0 rfl rfl rv_cat) (fun v10 => ?_)
      refine J_goto (tgt := 62) dX0_init_84 rfl ?_
      exact J_sub [1, 0] rfl (ih a0 v10 h8)
def X0_init_f (a0 : Nat) (h : AH) : Option (Unit × AH) :=
  G (xc h a0 ≠ 99) <|
  LT (xn h) fun r4 =>
  LT (pN h 16 (nI 10).toNatClampNeg) fun h3 =>
  G (xc h3 a0 = 0) <|
  LT (pR h3 a0 7 r4) fun h6 =>
  LT (xn h6) fun r9 =>
  LT (pN h6 16 (nI 10).toNatClampNeg) fun h8 =>
  G (xc h8 a0 = 0) <|
  LT (pR h8 a0 8 r9) fun h11 =>
  LT (xn h11) fun r14 =>
  LT (pN h11 16 (nI 10).toNatClampNeg) fun h13 =>
  G (xc h13 a0 = 0) <|
  LT (pR h13 a0 9 r14) fun h16 =>
  LT (xn h16) fun r19 =>
  LT (pN h16 20 (nI 10).toNatClampNeg) fun h18 =>
  G (xc h18 a0 = 0) <|
  LT (pR h18 a0 10 r19) fun h21 =>
  LT (xn h21) fun r24 =>
  LT (pN h21 20 (nI 6).toNatClampNeg) fun h23 =>
  G (xc h23 a0 = 0) <|
  LT (pR h23 a0 11 r24) fun h26 =>
  LT (xn h26) fun r29 =>
  LT (pN h26 16 (nI 3).toNatClampNeg) fun h28 =>
  G (xc h28 a0 = 0) <|
  LT (pR h28 a0 12 r29) fun h31 =>
  LT (xn h31) fun r34 =>
  LT (pN h31 16 (nI 3).toNatClampNeg) fun h33 =>
  G (xc h33 a0 = 0) <|
  LT (pR h33 a0 13 r34) fun h36 =>
  X0_init_B62 FU a0 (nI 0) h36
theorem jX0_init (x : CT) (a0 : Nat) (h : AH) : J x qX0_init ZV 0 [(0, rv (zx x) a0)] [] h (X0_init_f a0 h) := by
  unfold X0_init_f
  refine J_aload_n 0 dX0_init_0 rv_is rfl ?_
  refine J_G (fun g1 => ?_)
  refine J_objInit kw_1_42 kw_1_35 kw_1_36 (by decide) dX0_init_1 g1 ?_
  refine J_aload_n 0 dX0_init_4 rv_is rfl ?_
  refine J_bipush (v := nI 10) dX0_init_5 rfl ?_
  refine J_newarr16 kw_1_101 dX0_init_7 (by decide) ?_
  refine J_LTr (fun r4 => ?_)
  refine J_LTh (fun h3 => ?_)
  refine J_G (fun g5 => ?_)
  refine J_putR kc_0 7 (by decide) rfl rfl (Or.inr ⟨_, rfl⟩) (Or.inr ⟨rfl, rfl, rfl⟩) kw_1_137 dX0_init_9 g5 ?_
  refine J_LTh (fun h6 => ?_)
  refine J_aload_n 0 dX0_init_12 rv_is rfl ?_
  refine J_bipush (v := nI 10) dX0_init_13 rfl ?_
  refine J_newarr16 kw_1_101 dX0_init_15 (by decide) ?_
  refine J_LTr (fun r9 => ?_)
  refine J_LTh (fun h8 => ?_)
  refine J_G (fun g10 => ?_)
  refine J_putR kc_0 8 (by decide) rfl rfl (Or.inr ⟨_, rfl⟩) (Or.inr ⟨rfl, rfl, rfl⟩) kw_1_138 dX0_init_17 g10 ?_
  refine J_LTh (fun h11 => ?_)
  refine J_aload_n 0 dX0_init_20 rv_is rfl ?_
  refine J_bipush (v := nI 10) dX0_init_21 rfl ?_
  refine J_newarr16 kw_1_101 dX0_init_23 (by decide) ?_
  refine J_LTr (fun r14 => ?_)
  refine J_LTh (fun h13 => ?_)
  refine J_G (fun g15 => ?_)
  refine J_putR kc_0 9 (by decide) rfl rfl (Or.inr ⟨_, rfl⟩) (Or.inr ⟨rfl, rfl, rfl⟩) kw_1_139 dX0_init_25 g15 ?_
  refine J_LTh (fun h16 => ?_)
  refine J_aload_n 0 dX0_init_28 rv_is rfl ?_
  refine J_bipush (v := nI 10) dX0_init_29 rfl ?_
  refine J_anew (t := 20) (t0 := 4) (by decide) (by decide) (fun _ => rfl) (by decide) kw_1_43 dX0_init_31 (by decide) ?_
  refine J_LTr (fun r19 => ?_)
  refine J_LTh (fun h18 => ?_)
  refine J_G (fun g20 => ?_)
  refine J_putR kc_0 10 (by decide) rfl rfl (Or.inr ⟨_, rfl⟩) (Or.inr ⟨rfl, rfl, rfl⟩) kw_1_140 dX0_init_34 g20 ?_
  refine J_LTh (fun h21 => ?_)
  refine J_aload_n 0 dX0_init_37 rv_is rfl ?_
  refine J_bipush (v := nI 6) dX0_init_38 rfl ?_
  refine J_anew (t := 20) (t0 := 4) (by decide) (by decide) (fun _ => rfl) (by decide) kw_1_43 dX0_init_40 (by decide) ?_
  refine J_LTr (fun r24 => ?_)
  refine J_LTh (fun h23 => ?_)
  refine J_G (fun g25 => ?_)
  refine J_putR kc_0 11 (by decide) rfl rfl (Or.inr ⟨_, rfl⟩) (Or.inr ⟨rfl, rfl, rfl⟩) kw_1_145 dX0_init_43 g25 ?_
  refine J_LTh (fun h26 => ?_)
  refine J_aload_n 0 dX0_init_46 rv_is rfl ?_
  refine J_iconst (v := nI 3) dX0_init_47 rfl ?_
  refine J_newarr16 kw_1_101 dX0_init_48 (by decide) ?_
  refine J_LTr (fun r29 => ?_)
  refine J_LTh (fun h28 => ?_)
  refine J_G (fun g30 => ?_)
  refine J_putR kc_0 12 (by decide) rfl rfl (Or.inr ⟨_, rfl⟩) (Or.inr ⟨rfl, rfl, rfl⟩) kw_1_150 dX0_init_50 g30 ?_
  refine J_LTh (fun h31 => ?_)
  refine J_aload_n 0 dX0_init_53 rv_is rfl ?_
  refine J_iconst (v := nI 3) dX0_init_54 rfl ?_
  refine J_newarr16 kw_1_101 dX0_init_55 (by decide) ?_
  refine J_LTr (fun r34 => ?_)
  refine J_LTh (fun h33 => ?_)
  refine J_G (fun g35 => ?_)
  refine J_putR kc_0 13 (by decide) rfl rfl (Or.inr ⟨_, rfl⟩) (Or.inr ⟨rfl, rfl, rfl⟩) kw_1_153 dX0_init_57 g35 ?_
  refine J_LTh (fun h36 => ?_)
  refine J_iconst (v := nI 0) dX0_init_60 rfl ?_
  refine J_istore_n dX0_init_61 (by decide) (SD.c (lvr := [(0, rv (zx x) a0)]) [0] rfl rfl 0 rfl rfl rv_cat) ?_
  exact J_sub [1, 0] rfl (jX0_init_B62 x FU a0 (nI 0) h36)
theorem ctX0_init (l : Launch) (w : WT) (a0 : Nat) (h : AH) : CM l w yX0_init cX0_init 2 none 2 40 KV [rv (w.1) a0] h (X0_init_f a0 h) :=
  CM.of (by decide +kernel) (by simp [lg_sl, rv_cat, cat_I, cat_L, cat_S]) (lv := [(0, rv (w.1) a0)]) (by simp [lv_args, rv_cat, cat_I, cat_L, cat_S]) (fun x hx => by subst hx; exact jX0_init x a0 h)
-- FallTrials$Course.addNext(IIJ)V
abbrev qX2_addNext : MT := (cX2_addNext, RX2, "addNext", none, 1, 30, 8)
def X2_addNext_B83 (k13 : (Nat → Int32 → Int32 → Int64 → Int32 → Int32 → AH → Option (Unit × AH))) (a0 : Nat) (i1 : Int32) (i2 : Int32) (l3 : Int64) (i5 : Int32) (i6 : Int32) (h : AH) : Option (Unit × AH) :=
  LT (i6 + nI 1) fun v1 =>
  k13 a0 i1 i2 l3 i5 v1 h
theorem jX2_addNext_B83 (x : CT) (k13 : (Nat → Int32 → Int32 → Int64 → Int32 → Int32 → AH → Option (Unit × AH))) (hk13 : ∀ (a0 : Nat) (i1 : Int32) (i2 : Int32) (l3 : Int64) (i5 : Int32) (i6 : Int32) (h : AH), J x qX2_addNext ZV 13 [(0, rv (zx x) a0), (1, .int i1), (2, .int i2), (3, .long l3), (5, .int i5), (6, .int i6)] [] h (k13 a0 i1 i2 l3 i5 i6 h)) (a0 : Nat) (i1 : Int32) (i2 : Int32) (l3 : Int64) (i5 : Int32) (i6 : Int32) (h : AH) : J x qX2_addNext ZV 83 [(0, rv (zx x) a0), (1, .int i1), (2, .int i2), (3, .long l3), (5, .int i5), (6, .int i6)] [] h (X2_addNext_B83 k13 a0 i1 i2 l3 i5 i6 h) := by
  unfold X2_addNext_B83
  refine J_iincL (u := i6 + nI 1) 5 dX2_addNext_83 rfl rfl (by decide) (SD.a (lvr := [(0, rv (zx x) a0), (1, .int i1), (2, .int i2), (3, .long l3), (5, .int i5)]) [0, 1, 2, 3, 4] rfl rfl) (fun v1 => ?_)
  refine J_goto (tgt := 13) dX2_addNext_86 rfl ?_
  exact J_sub [1, 2, 3, 4, 5, 0] rfl (hk13 a0 i1 i2 l3 i5 v1 h)
def X2_addNext_B13 : Nat → Nat → Int32 → Int32 → Int64 → Int32 → Int32 → AH → Option (Unit × AH)
  | 0, _, _, _, _, _, _, _ => none
  | n + 1, a0, i1, i2, l3, i5, i6, h =>
    G (xc h a0 = 2) <|
    G (xc h (xR h a0 8) = 0) <|
    if (xI h (xR h a0 8) 3) ≤ i6 then (
      some ((), h)
    ) else (
      G (xc h a0 = 2) <|
      G (xc h (xR h a0 8) = 0) <|
      G (xc h (xR h (xR h a0 8) 10) = 20) <|
      G (gx i6 (xz h (xR h (xR h a0 8) 10))) <|
      LT (xR h (xR h (xR h a0 8) 10) i6.toNatClampNeg) fun r7 =>
      G (xc h r7 = 1) <|
      if (xI h r7 8) = 0 then (
        G (xc h r7 = 1) <|
        BN (X1_isFor_f r7 i1 h) fun v11 h10 =>
        if v11 = 0 then (
          X2_addNext_B83 (X2_addNext_B13 n) a0 i1 i2 l3 i5 i6 h10
        ) else (
          G (xc h10 a0 = 2) <|
          G (xc h10 r7 = 1) <|
          G (xc h10 (xR h10 a0 0) = 17) <|
          G (gx (i5 + (xI h10 r7 3)) (xz h10 (xR h10 a0 0))) <|
          BN (X2_held_f a0 r7 i1 (i2 - (nI 1)) (nI 0) h10) fun w17 h16 =>
          G (xc h16 (xR h10 a0 0) = 17) <|
          G (gx (i5 + (xI h10 r7 3)) (xz h16 (xR h10 a0 0))) <|
          LT (pL h16 (xR h10 a0 0) (i5 + (xI h10 r7 3)).toNatClampNeg ((xL h10 (xR h10 a0 0) (i5 + (xI h10 r7 3)).toNatClampNeg) ||| (w17 &&& l3))) fun h20 =>
          X2_addNext_B83 (X2_addNext_B13 n) a0 i1 i2 l3 i5 i6 h20
        )
      ) else (
        X2_addNext_B83 (X2_addNext_B13 n) a0 i1 i2 l3 i5 i6 h
      )
    )
theorem jX2_addNext_B13 (x : CT) : ∀ (n : Nat) (a0 : Nat) (i1 : Int32) (i2 : Int32) (l3 : Int64) (i5 : Int32) (i6 : Int32) (h : AH), J x qX2_addNext ZV 13 [(0, rv (zx x) a0), (1, .int i1), (2, .int i2), (3, .long l3), (5, .int i5), (6, .int i6)] [] h (X2_addNext_B13 n a0 i1 i2 l3 i5 i6 h) := by
  intro n
  induction n with
  | zero => intro a0 i1 i2 l3 i5 i6 h; exact J_none
  | succ n ih =>
    intro a0 i1 i2 l3 i5 i6 h
    unfold X2_addNext_B13
    refine J_iload 5 dX2_addNext_13 rfl ?_
    refine J_aload_n 0 dX2_addNext_15 rv_is rfl ?_
    refine J_G (fun g1 => ?_)
    refine J_getR kc_2 8 (by decide) rfl rfl kw_2_187 dX2_addNext_16 g1 ?_
    refine J_G (fun g2 => ?_)
    refine J_getI kc_0 3 (by decide) rfl rfl kw_1_120 dX2_addNext_19 g2 ?_
    refine J_icmp_ge (tgt := 89) dX2_addNext_22 rfl ?_ ?_
    · exact J_vret dX2_addNext_89
    · refine J_aload_n 0 dX2_addNext_25 rv_is rfl ?_
      refine J_G (fun g3 => ?_)
      refine J_getR kc_2 8 (by decide) rfl rfl kw_2_187 dX2_addNext_26 g3 ?_
      refine J_G (fun g4 => ?_)
      refine J_getR kc_0 10 (by decide) rfl rfl kw_1_141 dX2_addNext_29 g4 ?_
      refine J_iload 5 dX2_addNext_32 rfl ?_
      refine J_G (fun g5 => ?_)
      refine J_G (fun g6 => ?_)
      refine J_aald (t := 20) (t0 := 4) (Cn := RX1) (by decide) (by decide) (fun _ => rfl) dX2_addNext_34 g5 g6 ?_
      refine J_LTr (fun r7 => ?_)
      refine J_astore rv_is dX2_addNext_35 (by decide) (SD.a (lvr := [(0, rv (zx x) a0), (1, .int i1), (2, .int i2), (3, .long l3), (5, .int i5), (6, .int i6)]) [0, 1, 2, 3, 4, 5] rfl rfl) ?_
      refine J_aload 0 dX2_addNext_37 rv_is rfl ?_
      refine J_G (fun g8 => ?_)
      refine J_getI kc_1 8 (by decide) rfl rfl kw_1_78 dX2_addNext_39 g8 ?_
      refine J_if_ne (tgt := 83) dX2_addNext_42 rfl ?_ ?_
      · exact J_sub [1, 2, 3, 4, 5, 6] rfl (jX2_addNext_B83 x (X2_addNext_B13 n) ih a0 i1 i2 l3 i5 i6 h)
      · refine J_aload 0 dX2_addNext_45 rv_is rfl ?_
        refine J_iload_n 2 dX2_addNext_47 rfl ?_
        refine J_G (fun g9 => ?_)
        refine J.callV (n := 1) (As := [.int i1]) kc_1 (ctX1_isFor (lx x) (wx x) r7 i1 h) kw_4_161 kw_4_158 kw_4_159 kw_4_160 kw_1_3 (by decide +kernel) rfl (by decide) (Nat.zero_le _) rfl dX2_addNext_48 g9 (fun v11 h10 => ?_)
        show J x _ _ 51 _ [.int v11] h10 _
        refine J_if_eq (tgt := 83) dX2_addNext_51 rfl ?_ ?_
        · exact J_sub [1, 2, 3, 4, 5, 6] rfl (jX2_addNext_B83 x (X2_addNext_B13 n) ih a0 i1 i2 l3 i5 i6 h10)
        · refine J_aload_n 1 dX2_addNext_54 rv_is rfl ?_
          refine J_G (fun g12 => ?_)
          refine J_getR kc_2 0 (by decide) rfl rfl kw_2_174 dX2_addNext_55 g12 ?_
          refine J_iload 5 dX2_addNext_58 rfl ?_
          refine J_aload 0 dX2_addNext_60 rv_is rfl ?_
          refine J_G (fun g13 => ?_)
          refine J_getI kc_1 3 (by decide) rfl rfl kw_1_60 dX2_addNext_62 g13 ?_
          refine J_iadd dX2_addNext_65 ?_
          refine J_dup2 dX2_addNext_66 rfl rv_cat ?_
          refine J_G (fun g14 => ?_)
          refine J_G (fun g15 => ?_)
          refine J_lald dX2_addNext_67 g14 g15 ?_
          refine J_aload_n 1 dX2_addNext_68 rv_is rfl ?_
          refine J_aload 0 dX2_addNext_69 rv_is rfl ?_
          refine J_iload_n 2 dX2_addNext_71 rfl ?_
          refine J_iload_n 3 dX2_addNext_72 rfl ?_
          refine J_iconst (v := nI 1) dX2_addNext_73 rfl ?_
          refine J_isub dX2_addNext_74 ?_
          refine J_iconst (v := nI 0) dX2_addNext_75 rfl ?_
          refine J.callV (n := 4) (As := [rv (zx x) r7, .int i1, .int (i2 - (nI 1)), .int (nI 0)]) kc_2 (ctX2_held (lx x) (wx x) a0 r7 i1 (i2 - (nI 1)) (nI 0) h10) kw_4_165 kw_4_162 kw_4_163 kw_4_164 kw_1_11 (by decide +kernel) rfl (by decide) (by simp [rv_cat, cat_I, cat_L, cat_S]) rfl dX2_addNext_76 g12 (fun w17 h16 => ?_)
          show J x _ _ 79 _ [.long w17, .long (xL h10 (xR h10 a0 0) (i5 + (xI h10 r7 3)).toNatClampNeg), .int (i5 + (xI h10 r7 3)), rv (zx x) (xR h10 a0 0)] h16 _
          refine J_lload_n 4 dX2_addNext_79 rfl ?_
          refine J_land dX2_addNext_80 ?_
          refine J_lor dX2_addNext_81 ?_
          refine J_G (fun g18 => ?_)
          refine J_G (fun g19 => ?_)
          refine J_last dX2_addNext_82 g18 g19 ?_
          refine J_LTh (fun h20 => ?_)
          exact J_sub [1, 2, 3, 4, 5, 6] rfl (jX2_addNext_B83 x (X2_addNext_B13 n) ih a0 i1 i2 l3 i5 i6 h20)
def X2_addNext_f (a0 : Nat) (i1 : Int32) (i2 : Int32) (l3 : Int64) (h : AH) : Option (Unit × AH) :=
  BN (X11_cell_f i2 i1 h) fun v2 h1 =>
  LT (v2 * (nI 10)) fun v3 =>
  X2_addNext_B13 FU a0 i1 i2 l3 v3 (nI 0) h1
theorem jX2_addNext (x : CT) (a0 : Nat) (i1 : Int32) (i2 : Int32) (l3 : Int64) (h : AH) : J x qX2_addNext ZV 0 [(0, rv (zx x) a0), (1, .int i1), (2, .int i2), (3, .long l3)] [] h (X2_addNext_f a0 i1 i2 l3 h) := by
  unfold X2_addNext_f
  refine J_iload_n 2 dX2_addNext_0 rfl ?_
  refine J_iload_n 1 dX2_addNext_1 rfl ?_
  refine J.callSN (n := 2) (As := [.int i2, .int i1]) (ctX11_cell (lx x) (wx x) i2 i1 h) kw_4_149 kn_5 kw_4_148 kw_1_1 (by decide +kernel) rfl (by decide) (Nat.zero_le _) rfl dX2_addNext_2 (fun v2 h1 => ?_)
  show J x _ _ 5 _ [.int v2] h1 _
  refine J_bipush (v := nI 10) dX2_addNext_5 rfl ?_
  refine J_imul dX2_addNext_7 ?_
  refine J_LTi (fun v3 => ?_)
  refine J_istore dX2_addNext_8 (by decide) (SD.a (lvr := [(0, rv (zx x) a0), (1, .int i1), (2, .int i2), (3, .long l3)]) [0, 1, 2, 3] rfl rfl) ?_
  refine J_iconst (v := nI 0) dX2_addNext_10 rfl ?_
  refine J_istore dX2_addNext_11 (by decide) (SD.a (lvr := [(5, .int v3), (0, rv (zx x) a0), (1, .int i1), (2, .int i2), (3, .long l3)]) [0, 1, 2, 3, 4] rfl rfl) ?_
  exact J_sub [2, 3, 4, 5, 1, 0] rfl (jX2_addNext_B13 x FU a0 i1 i2 l3 v3 (nI 0) h1)
theorem ctX2_addNext (l : Launch) (w : WT) (a0 : Nat) (i1 : Int32) (i2 : Int32) (l3 : Int64) (h : AH) : CM l w yX2_addNext cX2_addNext 8 none 1 30 KV [rv (w.1) a0, .int i1, .int i2, .long l3] h (X2_addNext_f a0 i1 i2 l3 h) :=
  CM.of (by decide +kernel) (by simp [lg_sl, rv_cat, cat_I, cat_L, cat_S]) (lv := [(0, rv (w.1) a0), (1, .int i1), (2, .int i2), (3, .long l3)]) (by simp [lv_args, rv_cat, cat_I, cat_L, cat_S]) (fun x hx => by subst hx; exact jX2_addNext x a0 i1 i2 l3 h)
