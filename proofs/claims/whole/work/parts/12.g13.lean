-- FallTrials$Trace.listWords(LFallTrials$Book;III)V
abbrev qX8_listWords : MT := (cX8_listWords, RX8, "listWords", none, 1, 24, 8)
def X8_listWords_B87 (k3 : (Nat → Nat → Int32 → Int32 → Int32 → Int32 → AH → Option (Unit × AH))) (a0 : Nat) (a1 : Nat) (i2 : Int32) (i3 : Int32) (i4 : Int32) (i5 : Int32) (h : AH) : Option (Unit × AH) :=
  LT (i5 + nI 1) fun v1 =>
  k3 a0 a1 i2 i3 i4 v1 h
theorem jX8_listWords_B87 (x : CT) (k3 : (Nat → Nat → Int32 → Int32 → Int32 → Int32 → AH → Option (Unit × AH))) (hk3 : ∀ (a0 : Nat) (a1 : Nat) (i2 : Int32) (i3 : Int32) (i4 : Int32) (i5 : Int32) (h : AH), J x qX8_listWords ZV 3 [(0, rv (zx x) a0), (1, rv (zx x) a1), (2, .int i2), (3, .int i3), (4, .int i4), (5, .int i5)] [] h (k3 a0 a1 i2 i3 i4 i5 h)) (a0 : Nat) (a1 : Nat) (i2 : Int32) (i3 : Int32) (i4 : Int32) (i5 : Int32) (h : AH) : J x qX8_listWords ZV 87 [(0, rv (zx x) a0), (1, rv (zx x) a1), (2, .int i2), (3, .int i3), (4, .int i4), (5, .int i5)] [] h (X8_listWords_B87 k3 a0 a1 i2 i3 i4 i5 h) := by
  unfold X8_listWords_B87
  refine J_iincL (u := i5 + nI 1) 5 dX8_listWords_87 rfl rfl (by decide) (SD.a (lvr := [(0, rv (zx x) a0), (1, rv (zx x) a1), (2, .int i2), (3, .int i3), (4, .int i4)]) [0, 1, 2, 3, 4] rfl rfl) (fun v1 => ?_)
  refine J_goto (tgt := 3) dX8_listWords_90 rfl ?_
  exact J_sub [1, 2, 3, 4, 5, 0] rfl (hk3 a0 a1 i2 i3 i4 v1 h)
def X8_listWords_B81 (k3 : (Nat → Nat → Int32 → Int32 → Int32 → Int32 → AH → Option (Unit × AH))) (k45 : (Nat → Nat → Int32 → Int32 → Int32 → Int32 → Int32 → AH → Option (Unit × AH))) (a0 : Nat) (a1 : Nat) (i2 : Int32) (i3 : Int32) (i4 : Int32) (i5 : Int32) (i7 : Int32) (h : AH) : Option (Unit × AH) :=
  LT (i7 + nI 1) fun v1 =>
  k45 a0 a1 i2 i3 i4 i5 v1 h
theorem jX8_listWords_B81 (x : CT) (k3 : (Nat → Nat → Int32 → Int32 → Int32 → Int32 → AH → Option (Unit × AH))) (hk3 : ∀ (a0 : Nat) (a1 : Nat) (i2 : Int32) (i3 : Int32) (i4 : Int32) (i5 : Int32) (h : AH), J x qX8_listWords ZV 3 [(0, rv (zx x) a0), (1, rv (zx x) a1), (2, .int i2), (3, .int i3), (4, .int i4), (5, .int i5)] [] h (k3 a0 a1 i2 i3 i4 i5 h)) (k45 : (Nat → Nat → Int32 → Int32 → Int32 → Int32 → Int32 → AH → Option (Unit × AH))) (hk45 : ∀ (a0 : Nat) (a1 : Nat) (i2 : Int32) (i3 : Int32) (i4 : Int32) (i5 : Int32) (i7 : Int32) (h : AH), J x qX8_listWords ZV 45 [(0, rv (zx x) a0), (1, rv (zx x) a1), (2, .int i2), (3, .int i3), (4, .int i4), (5, .int i5), (7, .int i7)] [] h (k45 a0 a1 i2 i3 i4 i5 i7 h)) (a0 : Nat) (a1 : Nat) (i2 : Int32) (i3 : Int32) (i4 : Int32) (i5 : Int32) (i7 : Int32) (h : AH) : J x qX8_listWords ZV 81 [(0, rv (zx x) a0), (1, rv (zx x) a1), (2, .int i2), (3, .int i3), (4, .int i4), (5, .int i5), (7, .int i7)] [] h (X8_listWords_B81 k3 k45 a0 a1 i2 i3 i4 i5 i7 h) := by
  unfold X8_listWords_B81
  refine J_iincL (u := i7 + nI 1) 6 dX8_listWords_81 rfl rfl (by decide) (SD.a (lvr := [(0, rv (zx x) a0), (1, rv (zx x) a1), (2, .int i2), (3, .int i3), (4, .int i4), (5, .int i5)]) [0, 1, 2, 3, 4, 5] rfl rfl) (fun v1 => ?_)
  refine J_goto (tgt := 45) dX8_listWords_84 rfl ?_
  exact J_sub [1, 2, 3, 4, 5, 6, 0] rfl (hk45 a0 a1 i2 i3 i4 i5 v1 h)
def X8_listWords_B45 (k3 : (Nat → Nat → Int32 → Int32 → Int32 → Int32 → AH → Option (Unit × AH))) : Nat → Nat → Nat → Int32 → Int32 → Int32 → Int32 → Int32 → AH → Option (Unit × AH)
  | 0, _, _, _, _, _, _, _, _ => none
  | n + 1, a0, a1, i2, i3, i4, i5, i7, h =>
    if i4 ≤ i7 then (
      X8_listWords_B87 k3 a0 a1 i2 i3 i4 i5 h
    ) else (
      G (xc h a0 = 8) <|
      BN (X8_comesIn_f a0 i5 i7 i4 h) fun v3 h2 =>
      if v3 = 0 then (
        X8_listWords_B81 k3 (X8_listWords_B45 k3 n) a0 a1 i2 i3 i4 i5 i7 h2
      ) else (
        G (xc h2 a0 = 8) <|
        BN (X8_addReason_f a0 (((nI 1000) + ((nI 10) * i5)) + i7) h2) fun _ h5 =>
        X8_listWords_B81 k3 (X8_listWords_B45 k3 n) a0 a1 i2 i3 i4 i5 i7 h5
      )
    )
theorem jX8_listWords_B45 (x : CT) (k3 : (Nat → Nat → Int32 → Int32 → Int32 → Int32 → AH → Option (Unit × AH))) (hk3 : ∀ (a0 : Nat) (a1 : Nat) (i2 : Int32) (i3 : Int32) (i4 : Int32) (i5 : Int32) (h : AH), J x qX8_listWords ZV 3 [(0, rv (zx x) a0), (1, rv (zx x) a1), (2, .int i2), (3, .int i3), (4, .int i4), (5, .int i5)] [] h (k3 a0 a1 i2 i3 i4 i5 h)) : ∀ (n : Nat) (a0 : Nat) (a1 : Nat) (i2 : Int32) (i3 : Int32) (i4 : Int32) (i5 : Int32) (i7 : Int32) (h : AH), J x qX8_listWords ZV 45 [(0, rv (zx x) a0), (1, rv (zx x) a1), (2, .int i2), (3, .int i3), (4, .int i4), (5, .int i5), (7, .int i7)] [] h (X8_listWords_B45 k3 n a0 a1 i2 i3 i4 i5 i7 h) := by
  intro n
  induction n with
  | zero => intro a0 a1 i2 i3 i4 i5 i7 h; exact J_none
  | succ n ih =>
    intro a0 a1 i2 i3 i4 i5 i7 h
    unfold X8_listWords_B45
    refine J_iload 6 dX8_listWords_45 rfl ?_
    refine J_iload 4 dX8_listWords_47 rfl ?_
    refine J_icmp_ge (tgt := 87) dX8_listWords_49 rfl ?_ ?_
    · exact J_sub [0, 1, 2, 3, 4, 5] rfl (jX8_listWords_B87 x k3 hk3 a0 a1 i2 i3 i4 i5 h)
    · refine J_aload_n 0 dX8_listWords_52 rv_is rfl ?_
      refine J_iload 5 dX8_listWords_53 rfl ?_
      refine J_iload 6 dX8_listWords_55 rfl ?_
      refine J_iload 4 dX8_listWords_57 rfl ?_
      refine J_G (fun g1 => ?_)
      refine J.callV (n := 3) (As := [.int i5, .int i7, .int i4]) kc_8 (ctX8_comesIn (lx x) (wx x) a0 i5 i7 i4 h) kw_5_4 kw_5_1 kw_5_2 kw_5_3 kw_1_10 (by decide +kernel) rfl (by decide) (Nat.zero_le _) rfl dX8_listWords_59 g1 (fun v3 h2 => ?_)
      show J x _ _ 62 _ [.int v3] h2 _
      refine J_if_eq (tgt := 81) dX8_listWords_62 rfl ?_ ?_
      · exact (jX8_listWords_B81 x k3 hk3 (X8_listWords_B45 k3 n) ih a0 a1 i2 i3 i4 i5 i7 h2)
      · refine J_aload_n 0 dX8_listWords_65 rv_is rfl ?_
        refine J_sipush (v := nI 1000) dX8_listWords_66 rfl ?_
        refine J_bipush (v := nI 10) dX8_listWords_69 rfl ?_
        refine J_iload 5 dX8_listWords_71 rfl ?_
        refine J_imul dX8_listWords_73 ?_
        refine J_iadd dX8_listWords_74 ?_
        refine J_iload 6 dX8_listWords_75 rfl ?_
        refine J_iadd dX8_listWords_77 ?_
        refine J_G (fun g4 => ?_)
        refine J.callV (n := 1) (As := [.int (((nI 1000) + ((nI 10) * i5)) + i7)]) kc_8 (ctX8_addReason (lx x) (wx x) a0 (((nI 1000) + ((nI 10) * i5)) + i7) h2) kw_4_236 kw_4_233 kw_4_234 kw_4_235 kw_1_10 (by decide +kernel) rfl (by decide) (Nat.zero_le _) rfl dX8_listWords_78 g4 (fun _ h5 => ?_)
        show J x _ _ 81 _ [] h5 _
        exact (jX8_listWords_B81 x k3 hk3 (X8_listWords_B45 k3 n) ih a0 a1 i2 i3 i4 i5 i7 h5)
def X8_listWords_B3 : Nat → Nat → Nat → Int32 → Int32 → Int32 → Int32 → AH → Option (Unit × AH)
  | 0, _, _, _, _, _, _, _ => none
  | n + 1, a0, a1, i2, i3, i4, i5, h =>
    G (xc h a1 = 0) <|
    if (xI h a1 4) ≤ i5 then (
      some ((), h)
    ) else (
      G (xc h a1 = 0) <|
      G (xc h (xR h a1 11) = 20) <|
      G (gx i5 (xz h (xR h a1 11))) <|
      LT (xR h (xR h a1 11) i5.toNatClampNeg) fun r5 =>
      G (xc h r5 = 1) <|
      if (xI h r5 3) = i2 then (
        G (xc h r5 = 1) <|
        if (xI h r5 7) = i3 then (
          X8_listWords_B45 (X8_listWords_B3 n) FU a0 a1 i2 i3 i4 i5 (nI 0) h
        ) else (
          X8_listWords_B87 (X8_listWords_B3 n) a0 a1 i2 i3 i4 i5 h
        )
      ) else (
        X8_listWords_B87 (X8_listWords_B3 n) a0 a1 i2 i3 i4 i5 h
      )
    )
theorem jX8_listWords_B3 (x : CT) : ∀ (n : Nat) (a0 : Nat) (a1 : Nat) (i2 : Int32) (i3 : Int32) (i4 : Int32) (i5 : Int32) (h : AH), J x qX8_listWords ZV 3 [(0, rv (zx x) a0), (1, rv (zx x) a1), (2, .int i2), (3, .int i3), (4, .int i4), (5, .int i5)] [] h (X8_listWords_B3 n a0 a1 i2 i3 i4 i5 h) := by
  intro n
  induction n with
  | zero => intro a0 a1 i2 i3 i4 i5 h; exact J_none
  | succ n ih =>
    intro a0 a1 i2 i3 i4 i5 h
    unfold X8_listWords_B3
    refine J_iload 5 dX8_listWords_3 rfl ?_
    refine J_aload_n 1 dX8_listWords_5 rv_is rfl ?_
    refine J_G (fun g1 => ?_)
    refine J_getI kc_0 4 (by decide) rfl rfl kw_1_126 dX8_listWords_6 g1 ?_
    refine J_icmp_ge (tgt := 93) dX8_listWords_9 rfl ?_ ?_
    · exact J_vret dX8_listWords_93
    · refine J_aload_n 1 dX8_listWords_12 rv_is rfl ?_
      refine J_G (fun g2 => ?_)
      refine J_getR kc_0 11 (by decide) rfl rfl kw_1_146 dX8_listWords_13 g2 ?_
      refine J_iload 5 dX8_listWords_16 rfl ?_
      refine J_G (fun g3 => ?_)
      refine J_G (fun g4 => ?_)
      refine J_aald (t := 20) (t0 := 4) (Cn := RX1) (by decide) (by decide) (fun _ => rfl) dX8_listWords_18 g3 g4 ?_
      refine J_LTr (fun r5 => ?_)
      refine J_astore rv_is dX8_listWords_19 (by decide) (SD.a (lvr := [(0, rv (zx x) a0), (1, rv (zx x) a1), (2, .int i2), (3, .int i3), (4, .int i4), (5, .int i5)]) [0, 1, 2, 3, 4, 5] rfl rfl) ?_
      refine J_aload 0 dX8_listWords_21 rv_is rfl ?_
      refine J_G (fun g6 => ?_)
      refine J_getI kc_1 3 (by decide) rfl rfl kw_1_62 dX8_listWords_23 g6 ?_
      refine J_iload_n 3 dX8_listWords_26 rfl ?_
      refine J_icmp_ne (tgt := 87) dX8_listWords_27 rfl ?_ ?_
      · exact J_sub [1, 2, 3, 4, 5, 6] rfl (jX8_listWords_B87 x (X8_listWords_B3 n) ih a0 a1 i2 i3 i4 i5 h)
      · refine J_aload 0 dX8_listWords_30 rv_is rfl ?_
        refine J_G (fun g7 => ?_)
        refine J_getI kc_1 7 (by decide) rfl rfl kw_1_73 dX8_listWords_32 g7 ?_
        refine J_iload_n 4 dX8_listWords_35 rfl ?_
        refine J_icmp_eq (tgt := 42) dX8_listWords_36 rfl ?_ ?_
        · refine J_iconst (v := nI 0) dX8_listWords_42 rfl ?_
          refine J_istore dX8_listWords_43 (by decide) (SD.a (lvr := [(0, rv (zx x) a0), (1, rv (zx x) a1), (2, .int i2), (3, .int i3), (4, .int i4), (5, .int i5)]) [1, 2, 3, 4, 5, 6] rfl rfl) ?_
          exact J_sub [1, 2, 3, 4, 5, 6, 0] rfl (jX8_listWords_B45 x (X8_listWords_B3 n) ih FU a0 a1 i2 i3 i4 i5 (nI 0) h)
        · refine J_goto (tgt := 87) dX8_listWords_39 rfl ?_
          exact J_sub [1, 2, 3, 4, 5, 6] rfl (jX8_listWords_B87 x (X8_listWords_B3 n) ih a0 a1 i2 i3 i4 i5 h)
def X8_listWords_f (a0 : Nat) (a1 : Nat) (i2 : Int32) (i3 : Int32) (i4 : Int32) (h : AH) : Option (Unit × AH) :=
  X8_listWords_B3 FU a0 a1 i2 i3 i4 (nI 0) h
theorem jX8_listWords (x : CT) (a0 : Nat) (a1 : Nat) (i2 : Int32) (i3 : Int32) (i4 : Int32) (h : AH) : J x qX8_listWords ZV 0 [(0, rv (zx x) a0), (1, rv (zx x) a1), (2, .int i2), (3, .int i3), (4, .int i4)] [] h (X8_listWords_f a0 a1 i2 i3 i4 h) := by
  unfold X8_listWords_f
  refine J_iconst (v := nI 0) dX8_listWords_0 rfl ?_
  refine J_istore dX8_listWords_1 (by decide) (SD.a (lvr := [(0, rv (zx x) a0), (1, rv (zx x) a1), (2, .int i2), (3, .int i3), (4, .int i4)]) [0, 1, 2, 3, 4] rfl rfl) ?_
  exact J_sub [1, 2, 3, 4, 5, 0] rfl (jX8_listWords_B3 x FU a0 a1 i2 i3 i4 (nI 0) h)
theorem ctX8_listWords (l : Launch) (w : WT) (a0 : Nat) (a1 : Nat) (i2 : Int32) (i3 : Int32) (i4 : Int32) (h : AH) : CM l w yX8_listWords cX8_listWords 8 none 1 24 KV [rv (w.1) a0, rv (w.1) a1, .int i2, .int i3, .int i4] h (X8_listWords_f a0 a1 i2 i3 i4 h) :=
  CM.of (by decide +kernel) (by simp [lg_sl, rv_cat, cat_I, cat_L, cat_S]) (lv := [(0, rv (w.1) a0), (1, rv (w.1) a1), (2, .int i2), (3, .int i3), (4, .int i4)]) (by simp [lv_args, rv_cat, cat_I, cat_L, cat_S]) (fun x hx => by subst hx; exact jX8_listWords x a0 a1 i2 i3 i4 h)
-- FallTrials$Trace.bringsNext(LFallTrials$Clause;II)Z
abbrev qX8_bringsNext : MT := (cX8_bringsNext, RX8, "bringsNext", (some .boolean), 1, 22, 4)
def X8_bringsNext_f (a0 : Nat) (a1 : Nat) (i2 : Int32) (i3 : Int32) (h : AH) : Option (Int32 × AH) :=
  G (xc h a1 = 1) <|
  if (xI h a1 8) = 0 then (
    G (xc h a1 = 1) <|
    BN (X1_isFor_f a1 i2 h) fun v4 h3 =>
    if v4 = 0 then (
      some (nI 0, h3)
    ) else (
      if i3 ≤ 0 then (
        some (nI 0, h3)
      ) else (
        G (xc h3 a0 = 8) <|
        BN (X8_isDown_f a0 i2 (i3 - (nI 1)) h3) fun v7 h6 =>
        if v7 = 0 then (
          G (xc h6 a0 = 8) <|
          BN (X11_cell_f (i3 - (nI 1)) i2 h6) fun v10 h9 =>
          G (xc h9 (xR h6 a0 0) = 16) <|
          G (gx v10 (xz h9 (xR h6 a0 0))) <|
          G (xc h9 a1 = 1) <|
          BN (X1_holdsAmong_f a1 (xI h9 (xR h6 a0 0) v10.toNatClampNeg) (nI 0) h9) fun v15 h14 =>
          if v15 = 0 then (
            some (nI 0, h14)
          ) else (
            some (nI 1, h14)
          )
        ) else (
          some (nI 0, h6)
        )
      )
    )
  ) else (
    some (nI 0, h)
  )
theorem jX8_bringsNext (x : CT) (a0 : Nat) (a1 : Nat) (i2 : Int32) (i3 : Int32) (h : AH) : J x qX8_bringsNext ZI 0 [(0, rv (zx x) a0), (1, rv (zx x) a1), (2, .int i2), (3, .int i3)] [] h (X8_bringsNext_f a0 a1 i2 i3 h) := by
  unfold X8_bringsNext_f
  refine J_aload_n 1 dX8_bringsNext_0 rv_is rfl ?_
  refine J_G (fun g1 => ?_)
  refine J_getI kc_1 8 (by decide) rfl rfl kw_1_80 dX8_bringsNext_1 g1 ?_
  refine J_if_ne (tgt := 54) dX8_bringsNext_4 rfl ?_ ?_
  · refine J_iconst (v := nI 0) dX8_bringsNext_54 rfl ?_
    exact J_zret dX8_bringsNext_55 (by decide)
  · refine J_aload_n 1 dX8_bringsNext_7 rv_is rfl ?_
    refine J_iload_n 2 dX8_bringsNext_8 rfl ?_
    refine J_G (fun g2 => ?_)
    refine J.callV (n := 1) (As := [.int i2]) kc_1 (ctX1_isFor (lx x) (wx x) a1 i2 h) kw_4_161 kw_5_14 kw_4_159 kw_4_160 kw_1_3 (by decide +kernel) rfl (by decide) (Nat.zero_le _) rfl dX8_bringsNext_9 g2 (fun v4 h3 => ?_)
    show J x _ _ 12 _ [.int v4] h3 _
    refine J_if_eq (tgt := 54) dX8_bringsNext_12 rfl ?_ ?_
    · refine J_iconst (v := nI 0) dX8_bringsNext_54 rfl ?_
      exact J_zret dX8_bringsNext_55 (by decide)
    · refine J_iload_n 3 dX8_bringsNext_15 rfl ?_
      refine J_if_le (tgt := 54) dX8_bringsNext_16 rfl ?_ ?_
      · refine J_iconst (v := nI 0) dX8_bringsNext_54 rfl ?_
        exact J_zret dX8_bringsNext_55 (by decide)
      · refine J_aload_n 0 dX8_bringsNext_19 rv_is rfl ?_
        refine J_iload_n 2 dX8_bringsNext_20 rfl ?_
        refine J_iload_n 3 dX8_bringsNext_21 rfl ?_
        refine J_iconst (v := nI 1) dX8_bringsNext_22 rfl ?_
        refine J_isub dX8_bringsNext_23 ?_
        refine J_G (fun g5 => ?_)
        refine J.callV (n := 2) (As := [.int i2, .int (i3 - (nI 1))]) kc_8 (ctX8_isDown (lx x) (wx x) a0 i2 (i3 - (nI 1)) h3) kw_4_211 kw_4_208 kw_4_209 kw_4_210 kw_1_10 (by decide +kernel) rfl (by decide) (Nat.zero_le _) rfl dX8_bringsNext_24 g5 (fun v7 h6 => ?_)
        show J x _ _ 27 _ [.int v7] h6 _
        refine J_if_ne (tgt := 54) dX8_bringsNext_27 rfl ?_ ?_
        · refine J_iconst (v := nI 0) dX8_bringsNext_54 rfl ?_
          exact J_zret dX8_bringsNext_55 (by decide)
        · refine J_aload_n 1 dX8_bringsNext_30 rv_is rfl ?_
          refine J_aload_n 0 dX8_bringsNext_31 rv_is rfl ?_
          refine J_G (fun g8 => ?_)
          refine J_getR kc_8 0 (by decide) rfl rfl kw_2_139 dX8_bringsNext_32 g8 ?_
          refine J_iload_n 3 dX8_bringsNext_35 rfl ?_
          refine J_iconst (v := nI 1) dX8_bringsNext_36 rfl ?_
          refine J_isub dX8_bringsNext_37 ?_
          refine J_iload_n 2 dX8_bringsNext_38 rfl ?_
          refine J.callSN (n := 2) (As := [.int (i3 - (nI 1)), .int i2]) (ctX11_cell (lx x) (wx x) (i3 - (nI 1)) i2 h6) kw_4_149 kn_6 kw_4_148 kw_1_1 (by decide +kernel) rfl (by decide) (by simp [rv_cat, cat_I, cat_L, cat_S]) rfl dX8_bringsNext_39 (fun v10 h9 => ?_)
          show J x _ _ 42 _ [.int v10, rv (zx x) (xR h6 a0 0), rv (zx x) a1] h9 _
          refine J_G (fun g11 => ?_)
          refine J_G (fun g12 => ?_)
          refine J_iald dX8_bringsNext_42 g11 g12 ?_
          refine J_iconst (v := nI 0) dX8_bringsNext_43 rfl ?_
          refine J_G (fun g13 => ?_)
          refine J.callV (n := 2) (As := [.int (xI h9 (xR h6 a0 0) v10.toNatClampNeg), .int (nI 0)]) kc_1 (ctX1_holdsAmong (lx x) (wx x) a1 (xI h9 (xR h6 a0 0) v10.toNatClampNeg) (nI 0) h9) kw_4_207 kw_4_204 kw_4_205 kw_4_206 kw_1_3 (by decide +kernel) rfl (by decide) (Nat.zero_le _) rfl dX8_bringsNext_44 g13 (fun v15 h14 => ?_)
          show J x _ _ 47 _ [.int v15] h14 _
          refine J_if_eq (tgt := 54) dX8_bringsNext_47 rfl ?_ ?_
          · refine J_iconst (v := nI 0) dX8_bringsNext_54 rfl ?_
            exact J_zret dX8_bringsNext_55 (by decide)
          · refine J_iconst (v := nI 1) dX8_bringsNext_50 rfl ?_
            refine J_goto (tgt := 55) dX8_bringsNext_51 rfl ?_
            exact J_zret dX8_bringsNext_55 (by decide)
theorem ctX8_bringsNext (l : Launch) (w : WT) (a0 : Nat) (a1 : Nat) (i2 : Int32) (i3 : Int32) (h : AH) : CM l w yX8_bringsNext cX8_bringsNext 4 (some .boolean) 1 22 KI [rv (w.1) a0, rv (w.1) a1, .int i2, .int i3] h (X8_bringsNext_f a0 a1 i2 i3 h) :=
  CM.of (by decide +kernel) (by simp [lg_sl, rv_cat, cat_I, cat_L, cat_S]) (lv := [(0, rv (w.1) a0), (1, rv (w.1) a1), (2, .int i2), (3, .int i3)]) (by simp [lv_args, rv_cat, cat_I, cat_L, cat_S]) (fun x hx => by subst hx; exact jX8_bringsNext x a0 a1 i2 i3 h)
-- FallTrials$Trace.bringsNow(LFallTrials$Clause;II)Z
abbrev qX8_bringsNow : MT := (cX8_bringsNow, RX8, "bringsNow", (some .boolean), 1, 22, 4)
def X8_bringsNow_f (a0 : Nat) (a1 : Nat) (i2 : Int32) (i3 : Int32) (h : AH) : Option (Int32 × AH) :=
  G (xc h a1 = 1) <|
  if (xI h a1 8) = 0 then (
    some (nI 0, h)
  ) else (
    G (xc h a1 = 1) <|
    BN (X1_isFor_f a1 i2 h) fun v4 h3 =>
    if v4 = 0 then (
      some (nI 0, h3)
    ) else (
      G (xc h3 a0 = 8) <|
      BN (X11_cell_f i3 i2 h3) fun v7 h6 =>
      G (xc h6 (xR h3 a0 0) = 16) <|
      G (gx v7 (xz h6 (xR h3 a0 0))) <|
      G (xc h6 a1 = 1) <|
      BN (X1_holdsAmong_f a1 (xI h6 (xR h3 a0 0) v7.toNatClampNeg) (nI 0) h6) fun v12 h11 =>
      if v12 = 0 then (
        some (nI 0, h11)
      ) else (
        some (nI 1, h11)
      )
    )
  )
theorem jX8_bringsNow (x : CT) (a0 : Nat) (a1 : Nat) (i2 : Int32) (i3 : Int32) (h : AH) : J x qX8_bringsNow ZI 0 [(0, rv (zx x) a0), (1, rv (zx x) a1), (2, .int i2), (3, .int i3)] [] h (X8_bringsNow_f a0 a1 i2 i3 h) := by
  unfold X8_bringsNow_f
  refine J_aload_n 1 dX8_bringsNow_0 rv_is rfl ?_
  refine J_G (fun g1 => ?_)
  refine J_getI kc_1 8 (by decide) rfl rfl kw_1_80 dX8_bringsNow_1 g1 ?_
  refine J_if_eq (tgt := 37) dX8_bringsNow_4 rfl ?_ ?_
  · refine J_iconst (v := nI 0) dX8_bringsNow_37 rfl ?_
    exact J_zret dX8_bringsNow_38 (by decide)
  · refine J_aload_n 1 dX8_bringsNow_7 rv_is rfl ?_
    refine J_iload_n 2 dX8_bringsNow_8 rfl ?_
    refine J_G (fun g2 => ?_)
    refine J.callV (n := 1) (As := [.int i2]) kc_1 (ctX1_isFor (lx x) (wx x) a1 i2 h) kw_4_161 kw_5_14 kw_4_159 kw_4_160 kw_1_3 (by decide +kernel) rfl (by decide) (Nat.zero_le _) rfl dX8_bringsNow_9 g2 (fun v4 h3 => ?_)
    show J x _ _ 12 _ [.int v4] h3 _
    refine J_if_eq (tgt := 37) dX8_bringsNow_12 rfl ?_ ?_
    · refine J_iconst (v := nI 0) dX8_bringsNow_37 rfl ?_
      exact J_zret dX8_bringsNow_38 (by decide)
    · refine J_aload_n 1 dX8_bringsNow_15 rv_is rfl ?_
      refine J_aload_n 0 dX8_bringsNow_16 rv_is rfl ?_
      refine J_G (fun g5 => ?_)
      refine J_getR kc_8 0 (by decide) rfl rfl kw_2_139 dX8_bringsNow_17 g5 ?_
      refine J_iload_n 3 dX8_bringsNow_20 rfl ?_
      refine J_iload_n 2 dX8_bringsNow_21 rfl ?_
      refine J.callSN (n := 2) (As := [.int i3, .int i2]) (ctX11_cell (lx x) (wx x) i3 i2 h3) kw_4_149 kn_6 kw_4_148 kw_1_1 (by decide +kernel) rfl (by decide) (by simp [rv_cat, cat_I, cat_L, cat_S]) rfl dX8_bringsNow_22 (fun v7 h6 => ?_)
      show J x _ _ 25 _ [.int v7, rv (zx x) (xR h3 a0 0), rv (zx x) a1] h6 _
      refine J_G (fun g8 => ?_)
      refine J_G (fun g9 => ?_)
      refine J_iald dX8_bringsNow_25 g8 g9 ?_
      refine J_iconst (v := nI 0) dX8_bringsNow_26 rfl ?_
      refine J_G (fun g10 => ?_)
      refine J.callV (n := 2) (As := [.int (xI h6 (xR h3 a0 0) v7.toNatClampNeg), .int (nI 0)]) kc_1 (ctX1_holdsAmong (lx x) (wx x) a1 (xI h6 (xR h3 a0 0) v7.toNatClampNeg) (nI 0) h6) kw_4_207 kw_4_204 kw_4_205 kw_4_206 kw_1_3 (by decide +kernel) rfl (by decide) (Nat.zero_le _) rfl dX8_bringsNow_27 g10 (fun v12 h11 => ?_)
      show J x _ _ 30 _ [.int v12] h11 _
      refine J_if_eq (tgt := 37) dX8_bringsNow_30 rfl ?_ ?_
      · refine J_iconst (v := nI 0) dX8_bringsNow_37 rfl ?_
        exact J_zret dX8_bringsNow_38 (by decide)
      · refine J_iconst (v := nI 1) dX8_bringsNow_33 rfl ?_
        refine J_goto (tgt := 38) dX8_bringsNow_34 rfl ?_
        exact J_zret dX8_bringsNow_38 (by decide)
theorem ctX8_bringsNow (l : Launch) (w : WT) (a0 : Nat) (a1 : Nat) (i2 : Int32) (i3 : Int32) (h : AH) : CM l w yX8_bringsNow cX8_bringsNow 4 (some .boolean) 1 22 KI [rv (w.1) a0, rv (w.1) a1, .int i2, .int i3] h (X8_bringsNow_f a0 a1 i2 i3 h) :=
  CM.of (by decide +kernel) (by simp [lg_sl, rv_cat, cat_I, cat_L, cat_S]) (lv := [(0, rv (w.1) a0), (1, rv (w.1) a1), (2, .int i2), (3, .int i3)]) (by simp [lv_args, rv_cat, cat_I, cat_L, cat_S]) (fun x hx => by subst hx; exact jX8_bringsNow x a0 a1 i2 i3 h)
-- FallTrials$Trace.firstLink(LFallTrials$Works;)I
abbrev qX8_firstLink : MT := (cX8_firstLink, RX8, "firstLink", (some .int), 2, 44, 5)
def X8_firstLink_B54 (a1 : Nat) (i3 : Int32) (i4 : Int32) (h : AH) : Option (Int32 × AH) :=
  G (xc h a1 = 10) <|
  BN (X8_linkOf_f (xI h a1 1) i3 i4 h) fun v3 h2 =>
  some (v3, h2)
theorem jX8_firstLink_B54 (x : CT) (a1 : Nat) (i3 : Int32) (i4 : Int32) (h : AH) : J x qX8_firstLink ZI 54 [(1, rv (zx x) a1), (3, .int i3), (4, .int i4)] [] h (X8_firstLink_B54 a1 i3 i4 h) := by
  unfold X8_firstLink_B54
  refine J_aload_n 0 dX8_firstLink_54 rv_is rfl ?_
  refine J_G (fun g1 => ?_)
  refine J_getI kc_10 1 (by decide) rfl rfl kw_2_18 dX8_firstLink_55 g1 ?_
  refine J_iload_n 1 dX8_firstLink_58 rfl ?_
  refine J_iload 2 dX8_firstLink_59 rfl ?_
  refine J.callS (n := 3) (As := [.int (xI h a1 1), .int i3, .int i4]) (ctX8_linkOf (lx x) (wx x) (xI h a1 1) i3 i4 h) kw_6_145 kw_6_143 kw_6_144 kw_1_10 (by decide +kernel) rfl (by decide) (Nat.zero_le _) rfl dX8_firstLink_61 (fun v3 h2 => ?_)
  show J x _ _ 64 _ [.int v3] h2 _
  exact J_iret dX8_firstLink_64
def X8_firstLink_B2 : Nat → Nat → Nat → Int32 → AH → Option (Int32 × AH)
  | 0, _, _, _, _ => none
  | n + 1, a0, a1, i2, h =>
    G (xc h a1 = 10) <|
    G (xc h (xR h a1 0) = 0) <|
    if (xI h (xR h a1 0) 15) ≤ i2 then (
      some ((-1), h)
    ) else (
      G (xc h a1 = 10) <|
      G (xc h (xR h a1 0) = 0) <|
      G (xc h (xR h (xR h a1 0) 13) = 16) <|
      G (gx i2 (xz h (xR h (xR h a1 0) 13))) <|
      LT ((xI h (xR h (xR h a1 0) 13) i2.toNatClampNeg) / (nI 10)) fun v7 =>
      G (gx i2 (xz h (xR h (xR h a1 0) 13))) <|
      LT ((xI h (xR h (xR h a1 0) 13) i2.toNatClampNeg) - (xI h (xR h (xR h a1 0) 13) i2.toNatClampNeg) / (nI 10) * (nI 10)) fun v9 =>
      G (xc h a0 = 8) <|
      BN (X8_isThere_f a0 v9 v7 (xI h a1 1) h) fun v12 h11 =>
      if v12 = 0 then (
        LT (i2 + nI 1) fun v13 =>
        X8_firstLink_B2 n a0 a1 v13 h11
      ) else (
        X8_firstLink_B54 a1 v7 v9 h11
      )
    )
theorem jX8_firstLink_B2 (x : CT) : ∀ (n : Nat) (a0 : Nat) (a1 : Nat) (i2 : Int32) (h : AH), J x qX8_firstLink ZI 2 [(0, rv (zx x) a0), (1, rv (zx x) a1), (2, .int i2)] [] h (X8_firstLink_B2 n a0 a1 i2 h) := by
  intro n
  induction n with
  | zero => intro a0 a1 i2 h; exact J_none
  | succ n ih =>
    intro a0 a1 i2 h
    unfold X8_firstLink_B2
    refine J_iload_n 2 dX8_firstLink_2 rfl ?_
    refine J_aload_n 1 dX8_firstLink_3 rv_is rfl ?_
    refine J_G (fun g1 => ?_)
    refine J_getR kc_10 0 (by decide) rfl rfl kw_2_14 dX8_firstLink_4 g1 ?_
    refine J_G (fun g2 => ?_)
    refine J_getI kc_0 15 (by decide) rfl rfl kw_1_164 dX8_firstLink_7 g2 ?_
    refine J_icmp_ge (tgt := 71) dX8_firstLink_10 rfl ?_ ?_
    · refine J_iconst (v := (-1)) dX8_firstLink_71 rfl ?_
      exact J_iret dX8_firstLink_72
    · refine J_aload_n 1 dX8_firstLink_13 rv_is rfl ?_
      refine J_G (fun g3 => ?_)
      refine J_getR kc_10 0 (by decide) rfl rfl kw_2_14 dX8_firstLink_14 g3 ?_
      refine J_G (fun g4 => ?_)
      refine J_getR kc_0 13 (by decide) rfl rfl kw_1_156 dX8_firstLink_17 g4 ?_
      refine J_iload_n 2 dX8_firstLink_20 rfl ?_
      refine J_G (fun g5 => ?_)
      refine J_G (fun g6 => ?_)
      refine J_iald dX8_firstLink_21 g5 g6 ?_
      refine J_bipush (v := nI 10) dX8_firstLink_22 rfl ?_
      refine J_idiv dX8_firstLink_24 (by decide) ?_
      refine J_LTi (fun v7 => ?_)
      refine J_istore_n dX8_firstLink_25 (by decide) (SD.a (lvr := [(0, rv (zx x) a0), (1, rv (zx x) a1), (2, .int i2)]) [0, 1, 2] rfl rfl) ?_
      refine J_aload_n 2 dX8_firstLink_26 rv_is rfl ?_
      refine J_getR kc_10 0 (by decide) rfl rfl kw_2_14 dX8_firstLink_27 g3 ?_
      refine J_getR kc_0 13 (by decide) rfl rfl kw_1_156 dX8_firstLink_30 g4 ?_
      refine J_iload_n 3 dX8_firstLink_33 rfl ?_
      refine J_G (fun g8 => ?_)
      refine J_iald dX8_firstLink_34 g5 g8 ?_
      refine J_bipush (v := nI 10) dX8_firstLink_35 rfl ?_
      refine J_irem dX8_firstLink_37 (by decide) ?_
      refine J_LTi (fun v9 => ?_)
      refine J_istore dX8_firstLink_38 (by decide) (SD.a (lvr := [(3, .int v7), (0, rv (zx x) a0), (1, rv (zx x) a1), (2, .int i2)]) [0, 1, 2, 3] rfl rfl) ?_
      refine J_aload_n 2 dX8_firstLink_40 rv_is rfl ?_
      refine J_iload 0 dX8_firstLink_41 rfl ?_
      refine J_iload_n 1 dX8_firstLink_43 rfl ?_
      refine J_aload_n 3 dX8_firstLink_44 rv_is rfl ?_
      refine J_getI kc_10 1 (by decide) rfl rfl kw_2_18 dX8_firstLink_45 g3 ?_
      refine J_G (fun g10 => ?_)
      refine J.callV (n := 3) (As := [.int v9, .int v7, .int (xI h a1 1)]) kc_8 (ctX8_isThere (lx x) (wx x) a0 v9 v7 (xI h a1 1) h) kw_4_223 kw_5_9 kw_4_221 kw_4_222 kw_1_10 (by decide +kernel) rfl (by decide) (Nat.zero_le _) rfl dX8_firstLink_48 g10 (fun v12 h11 => ?_)
      show J x _ _ 51 _ [.int v12] h11 _
      refine J_if_eq (tgt := 65) dX8_firstLink_51 rfl ?_ ?_
      · refine J_iincL (u := i2 + nI 1) 4 dX8_firstLink_65 rfl rfl (by decide) (SD.c (lvr := [(0, rv (zx x) a0), (1, rv (zx x) a1)]) [2, 3] rfl rfl 1 rfl rfl rv_cat) (fun v13 => ?_)
        refine J_goto (tgt := 2) dX8_firstLink_68 rfl ?_
        exact J_sub [1, 2, 0] rfl (ih a0 a1 v13 h11)
      · exact J_sub [3, 1, 0] rfl (jX8_firstLink_B54 x a1 v7 v9 h11)
def X8_firstLink_f (a0 : Nat) (a1 : Nat) (h : AH) : Option (Int32 × AH) :=
  X8_firstLink_B2 FU a0 a1 (nI 0) h
theorem jX8_firstLink (x : CT) (a0 : Nat) (a1 : Nat) (h : AH) : J x qX8_firstLink ZI 0 [(0, rv (zx x) a0), (1, rv (zx x) a1)] [] h (X8_firstLink_f a0 a1 h) := by
  unfold X8_firstLink_f
  refine J_iconst (v := nI 0) dX8_firstLink_0 rfl ?_
  refine J_istore_n dX8_firstLink_1 (by decide) (SD.c (lvr := [(0, rv (zx x) a0), (1, rv (zx x) a1)]) [0, 1] rfl rfl 1 rfl rfl rv_cat) ?_
  exact J_sub [1, 2, 0] rfl (jX8_firstLink_B2 x FU a0 a1 (nI 0) h)
theorem ctX8_firstLink (l : Launch) (w : WT) (a0 : Nat) (a1 : Nat) (h : AH) : CM l w yX8_firstLink cX8_firstLink 5 (some .int) 2 44 KI [rv (w.1) a0, rv (w.1) a1] h (X8_firstLink_f a0 a1 h) :=
  CM.of (by decide +kernel) (by simp [lg_sl, rv_cat, cat_I, cat_L, cat_S]) (lv := [(0, rv (w.1) a0), (1, rv (w.1) a1)]) (by simp [lv_args, rv_cat, cat_I, cat_L, cat_S]) (fun x hx => by subst hx; exact jX8_firstLink x a0 a1 h)
-- FallTrials$Trace.leastLink(III)I
abbrev qX8_leastLink : MT := (cX8_leastLink, RX8, "leastLink", (some .int), 1, 22, 3)
def X8_leastLink_f (i0 : Int32) (i1 : Int32) (i2 : Int32) (h : AH) : Option (Int32 × AH) :=
  if i2 = 0 then (
    some ((-1), h)
  ) else (
    BN (J6_numberOfTrailingZeros_0f7a4_f i2 h) fun v2 h1 =>
    BN (X8_linkOf_f i0 i1 v2 h1) fun v4 h3 =>
    some (v4, h3)
  )
theorem jX8_leastLink (x : CT) (i0 : Int32) (i1 : Int32) (i2 : Int32) (h : AH) : J x qX8_leastLink ZI 0 [(0, .int i0), (1, .int i1), (2, .int i2)] [] h (X8_leastLink_f i0 i1 i2 h) := by
  unfold X8_leastLink_f
  refine J_iload_n 2 dX8_leastLink_0 rfl ?_
  refine J_if_ne (tgt := 8) dX8_leastLink_1 rfl ?_ ?_
  · refine J_iload_n 0 dX8_leastLink_8 rfl ?_
    refine J_iload_n 1 dX8_leastLink_9 rfl ?_
    refine J_iload_n 2 dX8_leastLink_10 rfl ?_
    refine J.callS (n := 1) (As := [.int i2]) (ctJ6_numberOfTrailingZeros_0f7a4 (lx x) (wx x) i2 h) kw_5_30 kw_6_155 kw_5_29 kw_1_27 (by decide +kernel) rfl (by decide) (by simp [rv_cat, cat_I, cat_L, cat_S]) rfl dX8_leastLink_11 (fun v2 h1 => ?_)
    show J x _ _ 14 _ [.int v2, .int i1, .int i0] h1 _
    refine J.callS (n := 3) (As := [.int i0, .int i1, .int v2]) (ctX8_linkOf (lx x) (wx x) i0 i1 v2 h1) kw_6_145 kw_6_143 kw_6_144 kw_1_10 (by decide +kernel) rfl (by decide) (Nat.zero_le _) rfl dX8_leastLink_14 (fun v4 h3 => ?_)
    show J x _ _ 17 _ [.int v4] h3 _
    exact J_iret dX8_leastLink_17
  · refine J_iconst (v := (-1)) dX8_leastLink_4 rfl ?_
    refine J_goto (tgt := 17) dX8_leastLink_5 rfl ?_
    exact J_iret dX8_leastLink_17
theorem ctX8_leastLink (l : Launch) (w : WT) (i0 : Int32) (i1 : Int32) (i2 : Int32) (h : AH) : CM l w yX8_leastLink cX8_leastLink 3 (some .int) 1 22 KI [.int i0, .int i1, .int i2] h (X8_leastLink_f i0 i1 i2 h) :=
  CM.of (by decide +kernel) (by simp [lg_sl, rv_cat, cat_I, cat_L, cat_S]) (lv := [(0, .int i0), (1, .int i1), (2, .int i2)]) (by simp [lv_args, rv_cat, cat_I, cat_L, cat_S]) (fun x hx => by subst hx; exact jX8_leastLink x i0 i1 i2 h)
-- FallTrials.<init>()V
abbrev qX11_init : MT := (cX11_init, RX11, "<init>", none, 3, 64, 2)
def X11_init_B155 (a0 : Nat) (h : AH) : Option (Unit × AH) :=
  LT (xn h) fun r2 =>
  LT (pN h 9 13) fun h1 =>
  G (xc h1 a0 = 11) <|
  G (xc h1 r2 ≠ 99) <|
  BN (X9_init_f r2 (xR h1 a0 1) h1) fun _ h5 =>
  G (xc h5 a0 = 11) <|
  LT (pR h5 a0 8 r2) fun h7 =>
  LT (xn h7) fun r9 =>
  LT (pN h7 8 7) fun h8 =>
  G (xc h8 r9 ≠ 99) <|
  BN (X8_init_f r9 h8) fun _ h11 =>
  G (xc h11 a0 = 11) <|
  LT (pR h11 a0 9 r9) fun h13 =>
  LT (xn h13) fun r15 =>
  LT (pN h13 8 7) fun h14 =>
  G (xc h14 r15 ≠ 99) <|
  BN (X8_init_f r15 h14) fun _ h17 =>
  G (xc h17 a0 = 11) <|
  LT (pR h17 a0 10 r15) fun h19 =>
  LT (xn h19) fun r22 =>
  LT (pN h19 16 (nI 280).toNatClampNeg) fun h21 =>
  G (xc h21 a0 = 11) <|
  LT (pR h21 a0 11 r22) fun h24 =>
  some ((), h24)
theorem jX11_init_B155 (x : CT) (a0 : Nat) (h : AH) : J x qX11_init ZV 155 [(0, rv (zx x) a0)] [] h (X11_init_B155 a0 h) := by
  unfold X11_init_B155
  refine J_aload_n 0 dX11_init_155 rv_is rfl ?_
  refine J_new kc_9 kw_2_65 kw_2_66 kw_1_7 dX11_init_156 ?_
  refine J_LTr (fun r2 => ?_)
  refine J_LTh (fun h1 => ?_)
  refine J_dup dX11_init_159 rv_cat ?_
  refine J_aload_n 0 dX11_init_160 rv_is rfl ?_
  refine J_G (fun g3 => ?_)
  refine J_getR kc_11 1 (by decide) rfl rfl kw_3_43 dX11_init_161 g3 ?_
  refine J_G (fun g4 => ?_)
  refine J.callI (n := 1) (As := [rv (zx x) (xR h1 a0 1)]) (ctX9_init (lx x) (wx x) r2 (xR h1 a0 1) h1) kw_2_69 kw_2_67 kw_2_68 kw_1_7 (by decide +kernel) rfl (by decide) (by simp [rv_cat, cat_I, cat_L, cat_S]) rfl dX11_init_164 g4 (fun _ h5 => ?_)
  show J x _ _ 167 _ [rv (zx x) r2, rv (zx x) a0] h5 _
  refine J_G (fun g6 => ?_)
  refine J_putR kc_11 8 (by decide) rfl rfl (Or.inl ⟨_, rfl⟩) (Or.inr ⟨rfl, rfl, rfl⟩) kw_3_50 dX11_init_167 g6 ?_
  refine J_LTh (fun h7 => ?_)
  refine J_aload_n 0 dX11_init_170 rv_is rfl ?_
  refine J_new kc_8 kw_3_40 kw_2_134 kw_1_10 dX11_init_171 ?_
  refine J_LTr (fun r9 => ?_)
  refine J_LTh (fun h8 => ?_)
  refine J_dup dX11_init_174 rv_cat ?_
  refine J_G (fun g10 => ?_)
  refine J.callIN (n := 0) (As := []) (ctX8_init (lx x) (wx x) r9 h8) kw_2_137 kn_4 kw_2_136 kw_1_10 (by decide +kernel) rfl (by decide) (by simp [rv_cat, cat_I, cat_L, cat_S]) rfl dX11_init_175 g10 (fun _ h11 => ?_)
  show J x _ _ 178 _ [rv (zx x) r9, rv (zx x) a0] h11 _
  refine J_G (fun g12 => ?_)
  refine J_putR kc_11 9 (by decide) rfl rfl (Or.inl ⟨_, rfl⟩) (Or.inr ⟨rfl, rfl, rfl⟩) kw_3_51 dX11_init_178 g12 ?_
  refine J_LTh (fun h13 => ?_)
  refine J_aload_n 0 dX11_init_181 rv_is rfl ?_
  refine J_new kc_8 kw_3_40 kw_2_134 kw_1_10 dX11_init_182 ?_
  refine J_LTr (fun r15 => ?_)
  refine J_LTh (fun h14 => ?_)
  refine J_dup dX11_init_185 rv_cat ?_
  refine J_G (fun g16 => ?_)
  refine J.callIN (n := 0) (As := []) (ctX8_init (lx x) (wx x) r15 h14) kw_2_137 kn_4 kw_2_136 kw_1_10 (by decide +kernel) rfl (by decide) (by simp [rv_cat, cat_I, cat_L, cat_S]) rfl dX11_init_186 g16 (fun _ h17 => ?_)
  show J x _ _ 189 _ [rv (zx x) r15, rv (zx x) a0] h17 _
  refine J_G (fun g18 => ?_)
  refine J_putR kc_11 10 (by decide) rfl rfl (Or.inl ⟨_, rfl⟩) (Or.inr ⟨rfl, rfl, rfl⟩) kw_3_52 dX11_init_189 g18 ?_
  refine J_LTh (fun h19 => ?_)
  refine J_aload_n 0 dX11_init_192 rv_is rfl ?_
  refine J_sipush (v := nI 280) dX11_init_193 rfl ?_
  refine J_newarr16 kw_1_101 dX11_init_196 (by decide) ?_
  refine J_LTr (fun r22 => ?_)
  refine J_LTh (fun h21 => ?_)
  refine J_G (fun g23 => ?_)
  refine J_putR kc_11 11 (by decide) rfl rfl (Or.inr ⟨_, rfl⟩) (Or.inr ⟨rfl, rfl, rfl⟩) kw_3_53 dX11_init_198 g23 ?_
  refine J_LTh (fun h24 => ?_)
  exact J_vret dX11_init_201
def X11_init_B128 : Nat → Nat → Int32 → AH → Option (Unit × AH)
  | 0, _, _, _ => none
  | n + 1, a0, i1, h =>
    if (nI 8) ≤ i1 then (
      X11_init_B155 a0 h
    ) else (
      G (xc h a0 = 11) <|
      LT (xn h) fun r3 =>
      LT (pN h 4 2) fun h2 =>
      G (xc h2 r3 ≠ 99) <|
      BN (X4_init_f r3 (nI 6) h2) fun _ h5 =>
      G (xc h5 (xR h a0 7) = 21) <|
      G (gx i1 (xz h5 (xR h a0 7))) <|
      G (xc h5 r3 = 4) <|
      LT (pR h5 (xR h a0 7) i1.toNatClampNeg r3) fun h8 =>
      LT (i1 + nI 1) fun v10 =>
      X11_init_B128 n a0 v10 h8
    )
theorem jX11_init_B128 (x : CT) : ∀ (n : Nat) (a0 : Nat) (i1 : Int32) (h : AH), J x qX11_init ZV 128 [(0, rv (zx x) a0), (1, .int i1)] [] h (X11_init_B128 n a0 i1 h) := by
  intro n
  induction n with
  | zero => intro a0 i1 h; exact J_none
  | succ n ih =>
    intro a0 i1 h
    unfold X11_init_B128
    refine J_iload_n 1 dX11_init_128 rfl ?_
    refine J_bipush (v := nI 8) dX11_init_129 rfl ?_
    refine J_icmp_ge (tgt := 155) dX11_init_131 rfl ?_ ?_
    · exact J_sub [0] rfl (jX11_init_B155 x a0 h)
    · refine J_aload_n 0 dX11_init_134 rv_is rfl ?_
      refine J_G (fun g1 => ?_)
      refine J_getR kc_11 7 (by decide) rfl rfl kw_3_49 dX11_init_135 g1 ?_
      refine J_iload_n 1 dX11_init_138 rfl ?_
      refine J_new kc_4 kw_2_48 kw_2_49 kw_1_6 dX11_init_139 ?_
      refine J_LTr (fun r3 => ?_)
      refine J_LTh (fun h2 => ?_)
      refine J_dup dX11_init_142 rv_cat ?_
      refine J_bipush (v := nI 6) dX11_init_143 rfl ?_
      refine J_G (fun g4 => ?_)
      refine J.callI (n := 1) (As := [.int (nI 6)]) (ctX4_init (lx x) (wx x) r3 (nI 6) h2) kw_2_52 kw_2_50 kw_2_51 kw_1_6 (by decide +kernel) rfl (by decide) (by simp [rv_cat, cat_I, cat_L, cat_S]) rfl dX11_init_145 g4 (fun _ h5 => ?_)
      show J x _ _ 148 _ [rv (zx x) r3, .int i1, rv (zx x) (xR h a0 7)] h5 _
      refine J_G (fun g6 => ?_)
      refine J_G (fun g7 => ?_)
      refine J_G (fun g9 => ?_)
      refine J_aast kc_4 (t := 21) (t0 := 5) (by decide) (by decide) (fun _ => rfl) dX11_init_148 g6 g7 g9 ?_
      refine J_LTh (fun h8 => ?_)
      refine J_iincL (u := i1 + nI 1) 1 dX11_init_149 rfl rfl (by decide) (SD.c (lvr := [(0, rv (zx x) a0)]) [0] rfl rfl 0 rfl rfl rv_cat) (fun v10 => ?_)
      refine J_goto (tgt := 128) dX11_init_152 rfl ?_
      exact J_sub [1, 0] rfl (ih a0 v10 h8)
def X11_init_f (a0 : Nat) (h : AH) : Option (Unit × AH) :=
  G (xc h a0 ≠ 99) <|
  LT (xn h) fun r3 =>
  LT (pN h 0 16) fun h2 =>
  G (xc h2 r3 ≠ 99) <|
  BN (X0_init_f r3 h2) fun _ h5 =>
  G (xc h5 a0 = 11) <|
  LT (pR h5 a0 12 r3) fun h7 =>
  LT (xn h7) fun r9 =>
  LT (pN h7 6 11) fun h8 =>
  G (xc h8 a0 = 11) <|
  G (xc h8 r9 ≠ 99) <|
  BN (X6_init_f r9 (xR h8 a0 12) h8) fun _ h12 =>
  G (xc h12 a0 = 11) <|
  LT (pR h12 a0 0 r9) fun h14 =>
  LT (xn h14) fun r16 =>
  LT (pN h14 10 6) fun h15 =>
  LT (xn h15) fun r18 =>
  LT (pN h15 0 16) fun h17 =>
  G (xc h17 r18 ≠ 99) <|
  BN (X0_init_f r18 h17) fun _ h20 =>
  G (xc h20 r16 ≠ 99) <|
  BN (X10_init_f r16 r18 h20) fun _ h22 =>
  G (xc h22 a0 = 11) <|
  LT (pR h22 a0 1 r16) fun h24 =>
  LT (xn h24) fun r26 =>
  LT (pN h24 10 6) fun h25 =>
  G (xc h25 a0 = 11) <|
  G (xc h25 (xR h25 a0 1) = 10) <|
  G (xc h25 r26 ≠ 99) <|
  BN (X10_init_f r26 (xR h25 (xR h25 a0 1) 0) h25) fun _ h30 =>
  G (xc h30 a0 = 11) <|
  LT (pR h30 a0 2 r26) fun h32 =>
  LT (xn h32) fun r34 =>
  LT (pN h32 4 2) fun h33 =>
  G (xc h33 r34 ≠ 99) <|
  BN (X4_init_f r34 (nI 6) h33) fun _ h36 =>
  G (xc h36 a0 = 11) <|
  LT (pR h36 a0 3 r34) fun h38 =>
  LT (xn h38) fun r40 =>
  LT (pN h38 4 2) fun h39 =>
  G (xc h39 r40 ≠ 99) <|
  BN (X4_init_f r40 (nI 0) h39) fun _ h42 =>
  G (xc h42 a0 = 11) <|
  LT (pR h42 a0 4 r40) fun h44 =>
  LT (xn h44) fun r46 =>
  LT (pN h44 4 2) fun h45 =>
  G (xc h45 r46 ≠ 99) <|
  BN (X4_init_f r46 (nI 6) h45) fun _ h48 =>
  G (xc h48 a0 = 11) <|
  LT (pR h48 a0 5 r46) fun h50 =>
  LT (xn h50) fun r52 =>
  LT (pN h50 4 2) fun h51 =>
  G (xc h51 r52 ≠ 99) <|
  BN (X4_init_f r52 (nI 6) h51) fun _ h54 =>
  G (xc h54 a0 = 11) <|
  LT (pR h54 a0 6 r52) fun h56 =>
  LT (xn h56) fun r59 =>
  LT (pN h56 21 (nI 8).toNatClampNeg) fun h58 =>
  G (xc h58 a0 = 11) <|
  LT (pR h58 a0 7 r59) fun h61 =>
  X11_init_B128 FU a0 (nI 0) h61
theorem jX11_init (x : CT) (a0 : Nat) (h : AH) : J x qX11_init ZV 0 [(0, rv (zx x) a0)] [] h (X11_init_f a0 h) := by
  unfold X11_init_f
  refine J_aload_n 0 dX11_init_0 rv_is rfl ?_
  refine J_G (fun g1 => ?_)
  refine J_objInit kw_1_34 kw_1_35 kw_1_36 (by decide) dX11_init_1 g1 ?_
  refine J_aload_n 0 dX11_init_4 rv_is rfl ?_
  refine J_new kc_0 kw_1_37 kw_1_38 kw_1_2 dX11_init_5 ?_
  refine J_LTr (fun r3 => ?_)
  refine J_LTh (fun h2 => ?_)
  refine J_dup dX11_init_8 rv_cat ?_
  refine J_G (fun g4 => ?_)
  refine J.callI (n := 0) (As := []) (ctX0_init (lx x) (wx x) r3 h2) kw_1_41 kw_1_39 kw_1_40 kw_1_2 (by decide +kernel) rfl (by decide) (by simp [rv_cat, cat_I, cat_L, cat_S]) rfl dX11_init_9 g4 (fun _ h5 => ?_)
  show J x _ _ 12 _ [rv (zx x) r3, rv (zx x) a0] h5 _
  refine J_G (fun g6 => ?_)
  refine J_putR kc_11 12 (by decide) rfl rfl (Or.inl ⟨_, rfl⟩) (Or.inl rfl) kw_3_54 dX11_init_12 g6 ?_
  refine J_LTh (fun h7 => ?_)
  refine J_aload_n 0 dX11_init_15 rv_is rfl ?_
  refine J_new kc_6 kw_1_199 kw_1_200 kw_1_4 dX11_init_16 ?_
  refine J_LTr (fun r9 => ?_)
  refine J_LTh (fun h8 => ?_)
  refine J_dup dX11_init_19 rv_cat ?_
  refine J_aload_n 0 dX11_init_20 rv_is rfl ?_
  refine J_G (fun g10 => ?_)
  refine J_getR kc_11 12 (by decide) rfl rfl kw_3_54 dX11_init_21 g10 ?_
  refine J_G (fun g11 => ?_)
  refine J.callI (n := 1) (As := [rv (zx x) (xR h8 a0 12)]) (ctX6_init (lx x) (wx x) r9 (xR h8 a0 12) h8) kw_1_203 kw_1_201 kw_1_202 kw_1_4 (by decide +kernel) rfl (by decide) (by simp [rv_cat, cat_I, cat_L, cat_S]) rfl dX11_init_24 g11 (fun _ h12 => ?_)
  show J x _ _ 27 _ [rv (zx x) r9, rv (zx x) a0] h12 _
  refine J_G (fun g13 => ?_)
  refine J_putR kc_11 0 (by decide) rfl rfl (Or.inl ⟨_, rfl⟩) (Or.inr ⟨rfl, rfl, rfl⟩) kw_3_42 dX11_init_27 g13 ?_
  refine J_LTh (fun h14 => ?_)
  refine J_aload_n 0 dX11_init_30 rv_is rfl ?_
  refine J_new kc_10 kw_2_4 kw_2_5 kw_1_5 dX11_init_31 ?_
  refine J_LTr (fun r16 => ?_)
  refine J_LTh (fun h15 => ?_)
  refine J_dup dX11_init_34 rv_cat ?_
  refine J_new kc_0 kw_1_37 kw_1_38 kw_1_2 dX11_init_35 ?_
  refine J_LTr (fun r18 => ?_)
  refine J_LTh (fun h17 => ?_)
  refine J_dup dX11_init_38 rv_cat ?_
  refine J_G (fun g19 => ?_)
  refine J.callI (n := 0) (As := []) (ctX0_init (lx x) (wx x) r18 h17) kw_1_41 kw_1_39 kw_1_40 kw_1_2 (by decide +kernel) rfl (by decide) (by simp [rv_cat, cat_I, cat_L, cat_S]) rfl dX11_init_39 g19 (fun _ h20 => ?_)
  show J x _ _ 42 _ [rv (zx x) r18, rv (zx x) r16, rv (zx x) r16, rv (zx x) a0] h20 _
  refine J_G (fun g21 => ?_)
  refine J.callI (n := 1) (As := [rv (zx x) r18]) (ctX10_init (lx x) (wx x) r16 r18 h20) kw_2_8 kw_2_6 kw_2_7 kw_1_5 (by decide +kernel) rfl (by decide) (by simp [rv_cat, cat_I, cat_L, cat_S]) rfl dX11_init_42 g21 (fun _ h22 => ?_)
  show J x _ _ 45 _ [rv (zx x) r16, rv (zx x) a0] h22 _
  refine J_G (fun g23 => ?_)
  refine J_putR kc_11 1 (by decide) rfl rfl (Or.inl ⟨_, rfl⟩) (Or.inr ⟨rfl, rfl, rfl⟩) kw_3_43 dX11_init_45 g23 ?_
  refine J_LTh (fun h24 => ?_)
  refine J_aload_n 0 dX11_init_48 rv_is rfl ?_
  refine J_new kc_10 kw_2_4 kw_2_5 kw_1_5 dX11_init_49 ?_
  refine J_LTr (fun r26 => ?_)
  refine J_LTh (fun h25 => ?_)
  refine J_dup dX11_init_52 rv_cat ?_
  refine J_aload_n 0 dX11_init_53 rv_is rfl ?_
  refine J_G (fun g27 => ?_)
  refine J_getR kc_11 1 (by decide) rfl rfl kw_3_43 dX11_init_54 g27 ?_
  refine J_G (fun g28 => ?_)
  refine J_getR kc_10 0 (by decide) rfl rfl kw_2_13 dX11_init_57 g28 ?_
  refine J_G (fun g29 => ?_)
  refine J.callI (n := 1) (As := [rv (zx x) (xR h25 (xR h25 a0 1) 0)]) (ctX10_init (lx x) (wx x) r26 (xR h25 (xR h25 a0 1) 0) h25) kw_2_8 kw_2_6 kw_2_7 kw_1_5 (by decide +kernel) rfl (by decide) (by simp [rv_cat, cat_I, cat_L, cat_S]) rfl dX11_init_60 g29 (fun _ h30 => ?_)
  show J x _ _ 63 _ [rv (zx x) r26, rv (zx x) a0] h30 _
  refine J_G (fun g31 => ?_)
  refine J_putR kc_11 2 (by decide) rfl rfl (Or.inl ⟨_, rfl⟩) (Or.inr ⟨rfl, rfl, rfl⟩) kw_3_44 dX11_init_63 g31 ?_
  refine J_LTh (fun h32 => ?_)
  refine J_aload_n 0 dX11_init_66 rv_is rfl ?_
  refine J_new kc_4 kw_2_48 kw_2_49 kw_1_6 dX11_init_67 ?_
  refine J_LTr (fun r34 => ?_)
  refine J_LTh (fun h33 => ?_)
  refine J_dup dX11_init_70 rv_cat ?_
  refine J_bipush (v := nI 6) dX11_init_71 rfl ?_
  refine J_G (fun g35 => ?_)
  refine J.callI (n := 1) (As := [.int (nI 6)]) (ctX4_init (lx x) (wx x) r34 (nI 6) h33) kw_2_52 kw_2_50 kw_2_51 kw_1_6 (by decide +kernel) rfl (by decide) (by simp [rv_cat, cat_I, cat_L, cat_S]) rfl dX11_init_73 g35 (fun _ h36 => ?_)
  show J x _ _ 76 _ [rv (zx x) r34, rv (zx x) a0] h36 _
  refine J_G (fun g37 => ?_)
  refine J_putR kc_11 3 (by decide) rfl rfl (Or.inl ⟨_, rfl⟩) (Or.inr ⟨rfl, rfl, rfl⟩) kw_3_45 dX11_init_76 g37 ?_
  refine J_LTh (fun h38 => ?_)
  refine J_aload_n 0 dX11_init_79 rv_is rfl ?_
  refine J_new kc_4 kw_2_48 kw_2_49 kw_1_6 dX11_init_80 ?_
  refine J_LTr (fun r40 => ?_)
  refine J_LTh (fun h39 => ?_)
  refine J_dup dX11_init_83 rv_cat ?_
  refine J_iconst (v := nI 0) dX11_init_84 rfl ?_
  refine J_G (fun g41 => ?_)
  refine J.callI (n := 1) (As := [.int (nI 0)]) (ctX4_init (lx x) (wx x) r40 (nI 0) h39) kw_2_52 kw_2_50 kw_2_51 kw_1_6 (by decide +kernel) rfl (by decide) (by simp [rv_cat, cat_I, cat_L, cat_S]) rfl dX11_init_85 g41 (fun _ h42 => ?_)
  show J x _ _ 88 _ [rv (zx x) r40, rv (zx x) a0] h42 _
  refine J_G (fun g43 => ?_)
  refine J_putR kc_11 4 (by decide) rfl rfl (Or.inl ⟨_, rfl⟩) (Or.inr ⟨rfl, rfl, rfl⟩) kw_3_46 dX11_init_88 g43 ?_
  refine J_LTh (fun h44 => ?_)
  refine J_aload_n 0 dX11_init_91 rv_is rfl ?_
  refine J_new kc_4 kw_2_48 kw_2_49 kw_1_6 dX11_init_92 ?_
  refine J_LTr (fun r46 => ?_)
  refine J_LTh (fun h45 => ?_)
  refine J_dup dX11_init_95 rv_cat ?_
  refine J_bipush (v := nI 6) dX11_init_96 rfl ?_
  refine J_G (fun g47 => ?_)
  refine J.callI (n := 1) (As := [.int (nI 6)]) (ctX4_init (lx x) (wx x) r46 (nI 6) h45) kw_2_52 kw_2_50 kw_2_51 kw_1_6 (by decide +kernel) rfl (by decide) (by simp [rv_cat, cat_I, cat_L, cat_S]) rfl dX11_init_98 g47 (fun _ h48 => ?_)
  show J x _ _ 101 _ [rv (zx x) r46, rv (zx x) a0] h48 _
  refine J_G (fun g49 => ?_)
  refine J_putR kc_11 5 (by decide) rfl rfl (Or.inl ⟨_, rfl⟩) (Or.inr ⟨rfl, rfl, rfl⟩) kw_3_47 dX11_init_101 g49 ?_
  refine J_LTh (fun h50 => ?_)
  refine J_aload_n 0 dX11_init_104 rv_is rfl ?_
  refine J_new kc_4 kw_2_48 kw_2_49 kw_1_6 dX11_init_105 ?_
  refine J_LTr (fun r52 => ?_)
  refine J_LTh (fun h51 => ?_)
  refine J_dup dX11_init_108 rv_cat ?_
  refine J_bipush (v := nI 6) dX11_init_109 rfl ?_
  refine J_G (fun g53 => ?_)
  refine J.callI (n := 1) (As := [.int (nI 6)]) (ctX4_init (lx x) (wx x) r52 (nI 6) h51) kw_2_52 kw_2_50 kw_2_51 kw_1_6 (by decide +kernel) rfl (by decide) (by simp [rv_cat, cat_I, cat_L, cat_S]) rfl dX11_init_111 g53 (fun _ h54 => ?_)
  show J x _ _ 114 _ [rv (zx x) r52, rv (zx x) a0] h54 _
  refine J_G (fun g55 => ?_)
  refine J_putR kc_11 6 (by decide) rfl rfl (Or.inl ⟨_, rfl⟩) (Or.inr ⟨rfl, rfl, rfl⟩) kw_3_48 dX11_init_114 g55 ?_
  refine J_LTh (fun h56 => ?_)
  refine J_aload_n 0 dX11_init_117 rv_is rfl ?_
  refine J_bipush (v := nI 8) dX11_init_118 rfl ?_
  refine J_anew (t := 21) (t0 := 5) (by decide) (by decide) (fun _ => rfl) (by decide) kw_2_48 dX11_init_120 (by decide) ?_
  refine J_LTr (fun r59 => ?_)
  refine J_LTh (fun h58 => ?_)
  refine J_G (fun g60 => ?_)
  refine J_putR kc_11 7 (by decide) rfl rfl (Or.inr ⟨_, rfl⟩) (Or.inr ⟨rfl, rfl, rfl⟩) kw_3_49 dX11_init_123 g60 ?_
  refine J_LTh (fun h61 => ?_)
  refine J_iconst (v := nI 0) dX11_init_126 rfl ?_
  refine J_istore_n dX11_init_127 (by decide) (SD.c (lvr := [(0, rv (zx x) a0)]) [0] rfl rfl 0 rfl rfl rv_cat) ?_
  exact J_sub [1, 0] rfl (jX11_init_B128 x FU a0 (nI 0) h61)
theorem ctX11_init (l : Launch) (w : WT) (a0 : Nat) (h : AH) : CM l w yX11_init cX11_init 2 none 3 64 KV [rv (w.1) a0] h (X11_init_f a0 h) :=
  CM.of (by decide +kernel) (by simp [lg_sl, rv_cat, cat_I, cat_L, cat_S]) (lv := [(0, rv (w.1) a0)]) (by simp [lv_args, rv_cat, cat_I, cat_L, cat_S]) (fun x hx => by subst hx; exact jX11_init x a0 h)
-- FallTrials.fall(III)I
abbrev qX11_fall : MT := (cX11_fall, RX11, "fall", (some .int), 1, 22, 5)
def X11_fall_B28 (a0 : Nat) (h : AH) : Option (Int32 × AH) :=
  G (xc h a0 = 11) <|
  BN (X11_refuse_f a0 (nI 1) h) fun v3 h2 =>
  some (v3, h2)
theorem jX11_fall_B28 (x : CT) (a0 : Nat) (h : AH) : J x qX11_fall ZI 28 [(0, rv (zx x) a0)] [] h (X11_fall_B28 a0 h) := by
  unfold X11_fall_B28
  refine J_aload_n 0 dX11_fall_28 rv_is rfl ?_
  refine J_iconst (v := nI 1) dX11_fall_29 rfl ?_
  refine J_G (fun g1 => ?_)
  refine J.callV (n := 1) (As := [.int (nI 1)]) kc_11 (ctX11_refuse (lx x) (wx x) a0 (nI 1) h) kw_3_112 kw_3_109 kw_3_111 kp_0 kw_1_1 (by decide +kernel) rfl (by decide) (Nat.zero_le _) rfl dX11_fall_30 g1 (fun v3 h2 => ?_)
  show J x _ _ 33 _ [.int v3] h2 _
  exact J_iret dX11_fall_33
def X11_fall_B49 (a0 : Nat) (h : AH) : Option (Int32 × AH) :=
  G (xc h a0 = 11) <|
  BN (X11_refuse_f a0 (nI 2) h) fun v3 h2 =>
  some (v3, h2)
theorem jX11_fall_B49 (x : CT) (a0 : Nat) (h : AH) : J x qX11_fall ZI 49 [(0, rv (zx x) a0)] [] h (X11_fall_B49 a0 h) := by
  unfold X11_fall_B49
  refine J_aload_n 0 dX11_fall_49 rv_is rfl ?_
  refine J_iconst (v := nI 2) dX11_fall_50 rfl ?_
  refine J_G (fun g1 => ?_)
  refine J.callV (n := 1) (As := [.int (nI 2)]) kc_11 (ctX11_refuse (lx x) (wx x) a0 (nI 2) h) kw_3_112 kw_3_109 kw_3_111 kp_0 kw_1_1 (by decide +kernel) rfl (by decide) (Nat.zero_le _) rfl dX11_fall_51 g1 (fun v3 h2 => ?_)
  show J x _ _ 54 _ [.int v3] h2 _
  exact J_iret dX11_fall_54
def X11_fall_f (a0 : Nat) (i1 : Int32) (i2 : Int32) (i3 : Int32) (h : AH) : Option (Int32 × AH) :=
  if i1 < 0 then (
    X11_fall_B28 a0 h
  ) else (
    if (nI 4) ≤ i1 then (
      X11_fall_B28 a0 h
    ) else (
      if i2 < 0 then (
        X11_fall_B28 a0 h
      ) else (
        G (xc h a0 = 11) <|
        G (xc h (xR h a0 1) = 10) <|
        G (xc h (xR h (xR h a0 1) 0) = 0) <|
        BN (X0_hitBy_f (xR h (xR h a0 1) 0) i1 h) fun v5 h4 =>
        if i2 < v5 then (
          if i3 < 0 then (
            X11_fall_B49 a0 h4
          ) else (
            G (xc h4 a0 = 11) <|
            G (xc h4 (xR h4 a0 1) = 10) <|
            if i3 < (xI h4 (xR h4 a0 1) 1) then (
              BN (X11_numberOf_f i1 i2 i3 h4) fun v9 h8 =>
              G (xc h8 a0 = 11) <|
              G (xc h8 (xR h8 a0 3) = 4) <|
              BN (X4_has_f (xR h8 a0 3) v9 h8) fun v13 h12 =>
              if v13 = 0 then (
                G (xc h12 a0 = 11) <|
                G (xc h12 (xR h12 a0 3) = 4) <|
                if (xI h12 (xR h12 a0 3) 1) = (nI 6) then (
                  G (xc h12 a0 = 11) <|
                  BN (X11_refuse_f a0 (nI 3) h12) fun v25 h24 =>
                  some (v25, h24)
                ) else (
                  G (xc h12 a0 = 11) <|
                  G (xc h12 (xR h12 a0 3) = 4) <|
                  BN (X4_insert_f (xR h12 a0 3) v9 h12) fun _ h18 =>
                  G (xc h18 a0 = 11) <|
                  G (xc h18 (xR h18 a0 3) = 4) <|
                  BN (X11_grant_f a0 (xI h18 (xR h18 a0 3) 1) h18) fun v22 h21 =>
                  some (v22, h21)
                )
              ) else (
                G (xc h12 a0 = 11) <|
                BN (X11_refuse_f a0 (nI 5) h12) fun v28 h27 =>
                some (v28, h27)
              )
            ) else (
              X11_fall_B49 a0 h4
            )
          )
        ) else (
          X11_fall_B28 a0 h4
        )
      )
    )
  )
theorem jX11_fall (x : CT) (a0 : Nat) (i1 : Int32) (i2 : Int32) (i3 : Int32) (h : AH) : J x qX11_fall ZI 0 [(0, rv (zx x) a0), (1, .int i1), (2, .int i2), (3, .int i3)] [] h (X11_fall_f a0 i1 i2 i3 h) := by
  unfold X11_fall_f
  refine J_iload_n 1 dX11_fall_0 rfl ?_
  refine J_if_lt (tgt := 28) dX11_fall_1 rfl ?_ ?_
  · exact J_sub [0] rfl (jX11_fall_B28 x a0 h)
  · refine J_iload_n 1 dX11_fall_4 rfl ?_
    refine J_iconst (v := nI 4) dX11_fall_5 rfl ?_
    refine J_icmp_ge (tgt := 28) dX11_fall_6 rfl ?_ ?_
    · exact J_sub [0] rfl (jX11_fall_B28 x a0 h)
    · refine J_iload_n 2 dX11_fall_9 rfl ?_
      refine J_if_lt (tgt := 28) dX11_fall_10 rfl ?_ ?_
      · exact J_sub [0] rfl (jX11_fall_B28 x a0 h)
      · refine J_iload_n 2 dX11_fall_13 rfl ?_
        refine J_aload_n 0 dX11_fall_14 rv_is rfl ?_
        refine J_G (fun g1 => ?_)
        refine J_getR kc_11 1 (by decide) rfl rfl kw_3_43 dX11_fall_15 g1 ?_
        refine J_G (fun g2 => ?_)
        refine J_getR kc_10 0 (by decide) rfl rfl kw_2_13 dX11_fall_18 g2 ?_
        refine J_iload_n 1 dX11_fall_21 rfl ?_
        refine J_G (fun g3 => ?_)
        refine J.callV (n := 1) (As := [.int i1]) kc_0 (ctX0_hitBy (lx x) (wx x) (xR h (xR h a0 1) 0) i1 h) kw_4_93 kw_4_90 kw_4_91 kw_4_92 kw_1_2 (by decide +kernel) rfl (by decide) (by simp [rv_cat, cat_I, cat_L, cat_S]) rfl dX11_fall_22 g3 (fun v5 h4 => ?_)
        show J x _ _ 25 _ [.int v5, .int i2] h4 _
        refine J_icmp_lt (tgt := 34) dX11_fall_25 rfl ?_ ?_
        · refine J_iload_n 3 dX11_fall_34 rfl ?_
          refine J_if_lt (tgt := 49) dX11_fall_35 rfl ?_ ?_
          · exact J_sub [0] rfl (jX11_fall_B49 x a0 h4)
          · refine J_iload_n 3 dX11_fall_38 rfl ?_
            refine J_aload_n 0 dX11_fall_39 rv_is rfl ?_
            refine J_G (fun g6 => ?_)
            refine J_getR kc_11 1 (by decide) rfl rfl kw_3_43 dX11_fall_40 g6 ?_
            refine J_G (fun g7 => ?_)
            refine J_getI kc_10 1 (by decide) rfl rfl kw_2_22 dX11_fall_43 g7 ?_
            refine J_icmp_lt (tgt := 55) dX11_fall_46 rfl ?_ ?_
            · refine J_iload_n 1 dX11_fall_55 rfl ?_
              refine J_iload_n 2 dX11_fall_56 rfl ?_
              refine J_iload_n 3 dX11_fall_57 rfl ?_
              refine J.callS (n := 3) (As := [.int i1, .int i2, .int i3]) (ctX11_numberOf (lx x) (wx x) i1 i2 i3 h4) kw_4_96 kw_4_94 kw_4_95 kw_1_1 (by decide +kernel) rfl (by decide) (Nat.zero_le _) rfl dX11_fall_58 (fun v9 h8 => ?_)
              show J x _ _ 61 _ [.int v9] h8 _
              refine J_istore dX11_fall_61 (by decide) (SD.a (lvr := [(0, rv (zx x) a0)]) [0] rfl rfl) ?_
              refine J_aload_n 1 dX11_fall_63 rv_is rfl ?_
              refine J_G (fun g10 => ?_)
              refine J_getR kc_11 3 (by decide) rfl rfl kw_3_45 dX11_fall_64 g10 ?_
              refine J_iload 0 dX11_fall_67 rfl ?_
              refine J_G (fun g11 => ?_)
              refine J.callV (n := 1) (As := [.int v9]) kc_4 (ctX4_has (lx x) (wx x) (xR h8 a0 3) v9 h8) kw_4_100 kw_4_97 kw_4_98 kw_4_99 kw_1_6 (by decide +kernel) rfl (by decide) (Nat.zero_le _) rfl dX11_fall_69 g11 (fun v13 h12 => ?_)
              show J x _ _ 72 _ [.int v13] h12 _
              refine J_if_eq (tgt := 81) dX11_fall_72 rfl ?_ ?_
              · refine J_aload_n 1 dX11_fall_81 rv_is rfl ?_
                refine J_G (fun g14 => ?_)
                refine J_getR kc_11 3 (by decide) rfl rfl kw_3_45 dX11_fall_82 g14 ?_
                refine J_G (fun g15 => ?_)
                refine J_getI kc_4 1 (by decide) rfl rfl kw_2_58 dX11_fall_85 g15 ?_
                refine J_bipush (v := nI 6) dX11_fall_88 rfl ?_
                refine J_icmp_ne (tgt := 99) dX11_fall_90 rfl ?_ ?_
                · refine J_aload_n 1 dX11_fall_99 rv_is rfl ?_
                  refine J_G (fun g16 => ?_)
                  refine J_getR kc_11 3 (by decide) rfl rfl kw_3_45 dX11_fall_100 g16 ?_
                  refine J_iload 0 dX11_fall_103 rfl ?_
                  refine J_G (fun g17 => ?_)
                  refine J.callV (n := 1) (As := [.int v9]) kc_4 (ctX4_insert (lx x) (wx x) (xR h12 a0 3) v9 h12) kw_4_104 kw_4_101 kw_4_102 kw_4_103 kw_1_6 (by decide +kernel) rfl (by decide) (Nat.zero_le _) rfl dX11_fall_105 g17 (fun _ h18 => ?_)
                  show J x _ _ 108 _ [] h18 _
                  refine J_aload_n 1 dX11_fall_108 rv_is rfl ?_
                  refine J_aload_n 1 dX11_fall_109 rv_is rfl ?_
                  refine J_G (fun g19 => ?_)
                  refine J_getR kc_11 3 (by decide) rfl rfl kw_3_45 dX11_fall_110 g19 ?_
                  refine J_G (fun g20 => ?_)
                  refine J_getI kc_4 1 (by decide) rfl rfl kw_2_58 dX11_fall_113 g20 ?_
                  refine J.callV (n := 1) (As := [.int (xI h18 (xR h18 a0 3) 1)]) kc_11 (ctX11_grant (lx x) (wx x) a0 (xI h18 (xR h18 a0 3) 1) h18) kw_4_65 kw_4_62 kw_4_64 kp_1 kw_1_1 (by decide +kernel) rfl (by decide) (Nat.zero_le _) rfl dX11_fall_116 g19 (fun v22 h21 => ?_)
                  show J x _ _ 119 _ [.int v22] h21 _
                  exact J_iret dX11_fall_119
                · refine J_aload_n 1 dX11_fall_93 rv_is rfl ?_
                  refine J_iconst (v := nI 3) dX11_fall_94 rfl ?_
                  refine J_G (fun g23 => ?_)
                  refine J.callV (n := 1) (As := [.int (nI 3)]) kc_11 (ctX11_refuse (lx x) (wx x) a0 (nI 3) h12) kw_3_112 kw_3_109 kw_3_111 kp_0 kw_1_1 (by decide +kernel) rfl (by decide) (Nat.zero_le _) rfl dX11_fall_95 g23 (fun v25 h24 => ?_)
                  show J x _ _ 98 _ [.int v25] h24 _
                  exact J_iret dX11_fall_98
              · refine J_aload_n 1 dX11_fall_75 rv_is rfl ?_
                refine J_iconst (v := nI 5) dX11_fall_76 rfl ?_
                refine J_G (fun g26 => ?_)
                refine J.callV (n := 1) (As := [.int (nI 5)]) kc_11 (ctX11_refuse (lx x) (wx x) a0 (nI 5) h12) kw_3_112 kw_3_109 kw_3_111 kp_0 kw_1_1 (by decide +kernel) rfl (by decide) (Nat.zero_le _) rfl dX11_fall_77 g26 (fun v28 h27 => ?_)
                show J x _ _ 80 _ [.int v28] h27 _
                exact J_iret dX11_fall_80
            · exact J_sub [0] rfl (jX11_fall_B49 x a0 h4)
        · exact J_sub [0] rfl (jX11_fall_B28 x a0 h4)
theorem ctX11_fall (l : Launch) (w : WT) (a0 : Nat) (i1 : Int32) (i2 : Int32) (i3 : Int32) (h : AH) : CM l w yX11_fall cX11_fall 5 (some .int) 1 22 KI [rv (w.1) a0, .int i1, .int i2, .int i3] h (X11_fall_f a0 i1 i2 i3 h) :=
  CM.of (by decide +kernel) (by simp [lg_sl, rv_cat, cat_I, cat_L, cat_S]) (lv := [(0, rv (w.1) a0), (1, .int i1), (2, .int i2), (3, .int i3)]) (by simp [lv_args, rv_cat, cat_I, cat_L, cat_S]) (fun x hx => by subst hx; exact jX11_fall x a0 i1 i2 i3 h)
-- FallTrials.make(I)I
abbrev qX11_make : MT := (cX11_make, RX11, "make", (some .int), 2, 45, 2)
def X11_make_f (a0 : Nat) (i1 : Int32) (h : AH) : Option (Int32 × AH) :=
  G (xc h a0 = 11) <|
  if (xI h a0 13) = 0 then (
    G (xc h a0 = 11) <|
    BN (X11_refuse_f a0 (nI 1) h) fun v20 h19 =>
    some (v20, h19)
  ) else (
    G (xc h a0 = 11) <|
    BN (X11_areMends_f a0 i1 h) fun v4 h3 =>
    if v4 = 0 then (
      G (xc h3 a0 = 11) <|
      BN (X11_refuse_f a0 (nI 2) h3) fun v17 h16 =>
      some (v17, h16)
    ) else (
      G (xc h3 a0 = 11) <|
      BN (X11_mendAll_f a0 (xR h3 a0 1) i1 h3) fun _ h6 =>
      G (xc h6 a0 = 11) <|
      G (xc h6 (xR h6 a0 6) = 4) <|
      BN (X4_wipe_f (xR h6 a0 6) h6) fun _ h9 =>
      BN (J6_bitCount_0f7a4_f i1 h9) fun v11 h10 =>
      G (xc h10 a0 = 11) <|
      BN (X11_grant_f a0 v11 h10) fun v14 h13 =>
      some (v14, h13)
    )
  )
theorem jX11_make (x : CT) (a0 : Nat) (i1 : Int32) (h : AH) : J x qX11_make ZI 0 [(0, rv (zx x) a0), (1, .int i1)] [] h (X11_make_f a0 i1 h) := by
  unfold X11_make_f
  refine J_aload_n 0 dX11_make_0 rv_is rfl ?_
  refine J_G (fun g1 => ?_)
  refine J_getI kc_11 13 (by decide) rfl rfl kw_3_55 dX11_make_1 g1 ?_
  refine J_if_ne (tgt := 13) dX11_make_4 rfl ?_ ?_
  · refine J_aload_n 0 dX11_make_13 rv_is rfl ?_
    refine J_iload_n 1 dX11_make_14 rfl ?_
    refine J_G (fun g2 => ?_)
    refine J.callV (n := 1) (As := [.int i1]) kc_11 (ctX11_areMends (lx x) (wx x) a0 i1 h) kw_6_17 kw_6_14 kw_6_16 kp_4 kw_1_1 (by decide +kernel) rfl (by decide) (Nat.zero_le _) rfl dX11_make_15 g2 (fun v4 h3 => ?_)
    show J x _ _ 18 _ [.int v4] h3 _
    refine J_if_ne (tgt := 27) dX11_make_18 rfl ?_ ?_
    · refine J_aload_n 0 dX11_make_27 rv_is rfl ?_
      refine J_aload_n 0 dX11_make_28 rv_is rfl ?_
      refine J_G (fun g5 => ?_)
      refine J_getR kc_11 1 (by decide) rfl rfl kw_3_43 dX11_make_29 g5 ?_
      refine J_iload_n 1 dX11_make_32 rfl ?_
      refine J.callV (n := 2) (As := [rv (zx x) (xR h3 a0 1), .int i1]) kc_11 (ctX11_mendAll (lx x) (wx x) a0 (xR h3 a0 1) i1 h3) kw_6_25 kw_6_22 kw_6_24 kp_6 kw_1_1 (by decide +kernel) rfl (by decide) (Nat.zero_le _) rfl dX11_make_33 g5 (fun _ h6 => ?_)
      show J x _ _ 36 _ [] h6 _
      refine J_aload_n 0 dX11_make_36 rv_is rfl ?_
      refine J_G (fun g7 => ?_)
      refine J_getR kc_11 6 (by decide) rfl rfl kw_3_48 dX11_make_37 g7 ?_
      refine J_G (fun g8 => ?_)
      refine J.callV (n := 0) (As := []) kc_4 (ctX4_wipe (lx x) (wx x) (xR h6 a0 6) h6) kw_4_52 kw_4_49 kw_4_50 kw_4_51 kw_1_6 (by decide +kernel) rfl (by decide) (Nat.zero_le _) rfl dX11_make_40 g8 (fun _ h9 => ?_)
      show J x _ _ 43 _ [] h9 _
      refine J_aload_n 0 dX11_make_43 rv_is rfl ?_
      refine J_iload_n 1 dX11_make_44 rfl ?_
      refine J.callS (n := 1) (As := [.int i1]) (ctJ6_bitCount_0f7a4 (lx x) (wx x) i1 h9) kw_6_36 kw_6_34 kw_6_35 kw_1_27 (by decide +kernel) rfl (by decide) (by simp [rv_cat, cat_I, cat_L, cat_S]) rfl dX11_make_45 (fun v11 h10 => ?_)
      show J x _ _ 48 _ [.int v11, rv (zx x) a0] h10 _
      refine J_G (fun g12 => ?_)
      refine J.callV (n := 1) (As := [.int v11]) kc_11 (ctX11_grant (lx x) (wx x) a0 v11 h10) kw_4_65 kw_4_62 kw_4_64 kp_1 kw_1_1 (by decide +kernel) rfl (by decide) (Nat.zero_le _) rfl dX11_make_48 g12 (fun v14 h13 => ?_)
      show J x _ _ 51 _ [.int v14] h13 _
      exact J_iret dX11_make_51
    · refine J_aload_n 0 dX11_make_21 rv_is rfl ?_
      refine J_iconst (v := nI 2) dX11_make_22 rfl ?_
      refine J_G (fun g15 => ?_)
      refine J.callV (n := 1) (As := [.int (nI 2)]) kc_11 (ctX11_refuse (lx x) (wx x) a0 (nI 2) h3) kw_3_112 kw_3_109 kw_3_111 kp_0 kw_1_1 (by decide +kernel) rfl (by decide) (Nat.zero_le _) rfl dX11_make_23 g15 (fun v17 h16 => ?_)
      show J x _ _ 26 _ [.int v17] h16 _
      exact J_iret dX11_make_26
  · refine J_aload_n 0 dX11_make_7 rv_is rfl ?_
    refine J_iconst (v := nI 1) dX11_make_8 rfl ?_
    refine J_G (fun g18 => ?_)
    refine J.callV (n := 1) (As := [.int (nI 1)]) kc_11 (ctX11_refuse (lx x) (wx x) a0 (nI 1) h) kw_3_112 kw_3_109 kw_3_111 kp_0 kw_1_1 (by decide +kernel) rfl (by decide) (Nat.zero_le _) rfl dX11_make_9 g18 (fun v20 h19 => ?_)
    show J x _ _ 12 _ [.int v20] h19 _
    exact J_iret dX11_make_12
theorem ctX11_make (l : Launch) (w : WT) (a0 : Nat) (i1 : Int32) (h : AH) : CM l w yX11_make cX11_make 2 (some .int) 2 45 KI [rv (w.1) a0, .int i1] h (X11_make_f a0 i1 h) :=
  CM.of (by decide +kernel) (by simp [lg_sl, rv_cat, cat_I, cat_L, cat_S]) (lv := [(0, rv (w.1) a0), (1, .int i1)]) (by simp [lv_args, rv_cat, cat_I, cat_L, cat_S]) (fun x hx => by subst hx; exact jX11_make x a0 i1 h)
