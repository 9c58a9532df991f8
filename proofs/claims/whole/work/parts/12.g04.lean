-- FallTrials.last(I)Z
abbrev qX11_last : MT := (cX11_last, RX11, "last", (some .boolean), 1, 21, 2)
def X11_last_B33 (a0 : Nat) (h : AH) : Option (Int32 × AH) :=
  G (xc h a0 = 11) <|
  BN (X11_refuse_f a0 (nI 2) h) fun v3 h2 =>
  if v3 = (-1) then (
    some (nI 0, h2)
  ) else (
    some (nI 1, h2)
  )
theorem jX11_last_B33 (x : CT) (a0 : Nat) (h : AH) : J x qX11_last ZI 33 [(0, rv (zx x) a0)] [] h (X11_last_B33 a0 h) := by
  unfold X11_last_B33
  refine J_aload_n 0 dX11_last_33 rv_is rfl ?_
  refine J_iconst (v := nI 2) dX11_last_34 rfl ?_
  refine J_G (fun g1 => ?_)
  refine J.callV (n := 1) (As := [.int (nI 2)]) kc_11 (ctX11_refuse (lx x) (wx x) a0 (nI 2) h) kw_3_112 kw_3_109 kw_3_111 kp_0 kw_1_1 (by decide +kernel) rfl (by decide) (Nat.zero_le _) rfl dX11_last_35 g1 (fun v3 h2 => ?_)
  show J x _ _ 38 _ [.int v3] h2 _
  refine J_iconst (v := (-1)) dX11_last_38 rfl ?_
  refine J_icmp_eq (tgt := 46) dX11_last_39 rfl ?_ ?_
  · refine J_iconst (v := nI 0) dX11_last_46 rfl ?_
    exact J_zret dX11_last_47 (by decide)
  · refine J_iconst (v := nI 1) dX11_last_42 rfl ?_
    refine J_goto (tgt := 47) dX11_last_43 rfl ?_
    exact J_zret dX11_last_47 (by decide)
def X11_last_f (a0 : Nat) (i1 : Int32) (h : AH) : Option (Int32 × AH) :=
  G (xc h a0 = 11) <|
  if (xI h a0 13) = 0 then (
    G (xc h a0 = 11) <|
    BN (X11_refuse_f a0 (nI 1) h) fun v15 h14 =>
    if v15 = (-1) then (
      some (nI 0, h14)
    ) else (
      some (nI 1, h14)
    )
  ) else (
    if i1 < (nI 1) then (
      X11_last_B33 a0 h
    ) else (
      if i1 ≤ (nI 6) then (
        G (xc h a0 = 11) <|
        G (xc h (xR h a0 1) = 10) <|
        LT (pI h (xR h a0 1) 1 i1) fun h4 =>
        G (xc h4 a0 = 11) <|
        G (xc h4 (xR h4 a0 3) = 4) <|
        BN (X4_wipe_f (xR h4 a0 3) h4) fun _ h7 =>
        G (xc h7 a0 = 11) <|
        LT (pI h7 a0 14 (nI 0)) fun h9 =>
        G (xc h9 a0 = 11) <|
        BN (X11_grant_f a0 (nI 1) h9) fun v12 h11 =>
        if v12 = (nI 1) then (
          some (nI 1, h11)
        ) else (
          some (nI 0, h11)
        )
      ) else (
        X11_last_B33 a0 h
      )
    )
  )
theorem jX11_last (x : CT) (a0 : Nat) (i1 : Int32) (h : AH) : J x qX11_last ZI 0 [(0, rv (zx x) a0), (1, .int i1)] [] h (X11_last_f a0 i1 h) := by
  unfold X11_last_f
  refine J_aload_n 0 dX11_last_0 rv_is rfl ?_
  refine J_G (fun g1 => ?_)
  refine J_getI kc_11 13 (by decide) rfl rfl kw_3_55 dX11_last_1 g1 ?_
  refine J_if_ne (tgt := 22) dX11_last_4 rfl ?_ ?_
  · refine J_iload_n 1 dX11_last_22 rfl ?_
    refine J_iconst (v := nI 1) dX11_last_23 rfl ?_
    refine J_icmp_lt (tgt := 33) dX11_last_24 rfl ?_ ?_
    · exact J_sub [0] rfl (jX11_last_B33 x a0 h)
    · refine J_iload_n 1 dX11_last_27 rfl ?_
      refine J_bipush (v := nI 6) dX11_last_28 rfl ?_
      refine J_icmp_le (tgt := 48) dX11_last_30 rfl ?_ ?_
      · refine J_aload_n 0 dX11_last_48 rv_is rfl ?_
        refine J_G (fun g2 => ?_)
        refine J_getR kc_11 1 (by decide) rfl rfl kw_3_43 dX11_last_49 g2 ?_
        refine J_iload_n 1 dX11_last_52 rfl ?_
        refine J_G (fun g3 => ?_)
        refine J_putI kc_10 1 (by decide) rfl rfl rfl rfl (Or.inl rfl) kw_2_22 dX11_last_53 g3 ?_
        refine J_LTh (fun h4 => ?_)
        refine J_aload_n 0 dX11_last_56 rv_is rfl ?_
        refine J_G (fun g5 => ?_)
        refine J_getR kc_11 3 (by decide) rfl rfl kw_3_45 dX11_last_57 g5 ?_
        refine J_G (fun g6 => ?_)
        refine J.callV (n := 0) (As := []) kc_4 (ctX4_wipe (lx x) (wx x) (xR h4 a0 3) h4) kw_4_52 kw_4_49 kw_4_50 kw_4_51 kw_1_6 (by decide +kernel) rfl (by decide) (Nat.zero_le _) rfl dX11_last_60 g6 (fun _ h7 => ?_)
        show J x _ _ 63 _ [] h7 _
        refine J_aload_n 0 dX11_last_63 rv_is rfl ?_
        refine J_iconst (v := nI 0) dX11_last_64 rfl ?_
        refine J_G (fun g8 => ?_)
        refine J_putI kc_11 14 (by decide) rfl rfl rfl rfl (Or.inl rfl) kw_3_56 dX11_last_65 g8 ?_
        refine J_LTh (fun h9 => ?_)
        refine J_aload_n 0 dX11_last_68 rv_is rfl ?_
        refine J_iconst (v := nI 1) dX11_last_69 rfl ?_
        refine J_G (fun g10 => ?_)
        refine J.callV (n := 1) (As := [.int (nI 1)]) kc_11 (ctX11_grant (lx x) (wx x) a0 (nI 1) h9) kw_4_65 kw_4_62 kw_4_64 kp_1 kw_1_1 (by decide +kernel) rfl (by decide) (Nat.zero_le _) rfl dX11_last_70 g10 (fun v12 h11 => ?_)
        show J x _ _ 73 _ [.int v12] h11 _
        refine J_iconst (v := nI 1) dX11_last_73 rfl ?_
        refine J_icmp_ne (tgt := 81) dX11_last_74 rfl ?_ ?_
        · refine J_iconst (v := nI 0) dX11_last_81 rfl ?_
          exact J_zret dX11_last_82 (by decide)
        · refine J_iconst (v := nI 1) dX11_last_77 rfl ?_
          refine J_goto (tgt := 82) dX11_last_78 rfl ?_
          exact J_zret dX11_last_82 (by decide)
      · exact J_sub [0] rfl (jX11_last_B33 x a0 h)
  · refine J_aload_n 0 dX11_last_7 rv_is rfl ?_
    refine J_iconst (v := nI 1) dX11_last_8 rfl ?_
    refine J_G (fun g13 => ?_)
    refine J.callV (n := 1) (As := [.int (nI 1)]) kc_11 (ctX11_refuse (lx x) (wx x) a0 (nI 1) h) kw_3_112 kw_3_109 kw_3_111 kp_0 kw_1_1 (by decide +kernel) rfl (by decide) (Nat.zero_le _) rfl dX11_last_9 g13 (fun v15 h14 => ?_)
    show J x _ _ 12 _ [.int v15] h14 _
    refine J_iconst (v := (-1)) dX11_last_12 rfl ?_
    refine J_icmp_eq (tgt := 20) dX11_last_13 rfl ?_ ?_
    · refine J_iconst (v := nI 0) dX11_last_20 rfl ?_
      exact J_zret dX11_last_21 (by decide)
    · refine J_iconst (v := nI 1) dX11_last_16 rfl ?_
      refine J_goto (tgt := 21) dX11_last_17 rfl ?_
      exact J_zret dX11_last_21 (by decide)
theorem ctX11_last (l : Launch) (w : WT) (a0 : Nat) (i1 : Int32) (h : AH) : CM l w yX11_last cX11_last 2 (some .boolean) 1 21 KI [rv (w.1) a0, .int i1] h (X11_last_f a0 i1 h) :=
  CM.of (by decide +kernel) (by simp [lg_sl, rv_cat, cat_I, cat_L, cat_S]) (lv := [(0, rv (w.1) a0), (1, .int i1)]) (by simp [lv_args, rv_cat, cat_I, cat_L, cat_S]) (fun x hx => by subst hx; exact jX11_last x a0 i1 h)
-- FallTrials.purse(II)Z
abbrev qX11_purse : MT := (cX11_purse, RX11, "purse", (some .boolean), 1, 21, 3)
def X11_purse_B16 (a0 : Nat) (h : AH) : Option (Int32 × AH) :=
  G (xc h a0 = 11) <|
  BN (X11_refuse_f a0 (nI 1) h) fun v3 h2 =>
  if v3 = (-1) then (
    some (nI 0, h2)
  ) else (
    some (nI 1, h2)
  )
theorem jX11_purse_B16 (x : CT) (a0 : Nat) (h : AH) : J x qX11_purse ZI 16 [(0, rv (zx x) a0)] [] h (X11_purse_B16 a0 h) := by
  unfold X11_purse_B16
  refine J_aload_n 0 dX11_purse_16 rv_is rfl ?_
  refine J_iconst (v := nI 1) dX11_purse_17 rfl ?_
  refine J_G (fun g1 => ?_)
  refine J.callV (n := 1) (As := [.int (nI 1)]) kc_11 (ctX11_refuse (lx x) (wx x) a0 (nI 1) h) kw_3_112 kw_3_109 kw_3_111 kp_0 kw_1_1 (by decide +kernel) rfl (by decide) (Nat.zero_le _) rfl dX11_purse_18 g1 (fun v3 h2 => ?_)
  show J x _ _ 21 _ [.int v3] h2 _
  refine J_iconst (v := (-1)) dX11_purse_21 rfl ?_
  refine J_icmp_eq (tgt := 29) dX11_purse_22 rfl ?_ ?_
  · refine J_iconst (v := nI 0) dX11_purse_29 rfl ?_
    exact J_zret dX11_purse_30 (by decide)
  · refine J_iconst (v := nI 1) dX11_purse_25 rfl ?_
    refine J_goto (tgt := 30) dX11_purse_26 rfl ?_
    exact J_zret dX11_purse_30 (by decide)
def X11_purse_B69 (a0 : Nat) (h : AH) : Option (Int32 × AH) :=
  G (xc h a0 = 11) <|
  BN (X11_refuse_f a0 (nI 2) h) fun v3 h2 =>
  if v3 = (-1) then (
    some (nI 0, h2)
  ) else (
    some (nI 1, h2)
  )
theorem jX11_purse_B69 (x : CT) (a0 : Nat) (h : AH) : J x qX11_purse ZI 69 [(0, rv (zx x) a0)] [] h (X11_purse_B69 a0 h) := by
  unfold X11_purse_B69
  refine J_aload_n 0 dX11_purse_69 rv_is rfl ?_
  refine J_iconst (v := nI 2) dX11_purse_70 rfl ?_
  refine J_G (fun g1 => ?_)
  refine J.callV (n := 1) (As := [.int (nI 2)]) kc_11 (ctX11_refuse (lx x) (wx x) a0 (nI 2) h) kw_3_112 kw_3_109 kw_3_111 kp_0 kw_1_1 (by decide +kernel) rfl (by decide) (Nat.zero_le _) rfl dX11_purse_71 g1 (fun v3 h2 => ?_)
  show J x _ _ 74 _ [.int v3] h2 _
  refine J_iconst (v := (-1)) dX11_purse_74 rfl ?_
  refine J_icmp_eq (tgt := 82) dX11_purse_75 rfl ?_ ?_
  · refine J_iconst (v := nI 0) dX11_purse_82 rfl ?_
    exact J_zret dX11_purse_83 (by decide)
  · refine J_iconst (v := nI 1) dX11_purse_78 rfl ?_
    refine J_goto (tgt := 83) dX11_purse_79 rfl ?_
    exact J_zret dX11_purse_83 (by decide)
def X11_purse_f (a0 : Nat) (i1 : Int32) (i2 : Int32) (h : AH) : Option (Int32 × AH) :=
  G (xc h a0 = 11) <|
  if (xI h a0 13) = 0 then (
    X11_purse_B16 a0 h
  ) else (
    if i1 < 0 then (
      X11_purse_B16 a0 h
    ) else (
      if i1 < (nI 4) then (
        if i2 < 0 then (
          X11_purse_B69 a0 h
        ) else (
          if (nI 3) < i2 then (
            X11_purse_B69 a0 h
          ) else (
            G (xc h a0 = 11) <|
            G (xc h (xR h a0 8) = 9) <|
            G (xc h (xR h (xR h a0 8) 0) = 5) <|
            BN (X5_total_f (xR h (xR h a0 8) 0) h) fun v6 h5 =>
            G (xc h5 a0 = 11) <|
            G (xc h5 (xR h5 a0 8) = 9) <|
            G (xc h5 (xR h5 (xR h5 a0 8) 0) = 5) <|
            G (xc h5 (xR h5 (xR h5 (xR h5 a0 8) 0) 0) = 16) <|
            G (gx i1 (xz h5 (xR h5 (xR h5 (xR h5 a0 8) 0) 0))) <|
            if ((v6 - (xI h5 (xR h5 (xR h5 (xR h5 a0 8) 0) 0) i1.toNatClampNeg)) + i2) ≤ (nI 3) then (
              G (xc h5 a0 = 11) <|
              G (xc h5 (xR h5 a0 8) = 9) <|
              G (xc h5 (xR h5 (xR h5 a0 8) 0) = 5) <|
              G (xc h5 (xR h5 (xR h5 (xR h5 a0 8) 0) 0) = 16) <|
              G (gx i1 (xz h5 (xR h5 (xR h5 (xR h5 a0 8) 0) 0))) <|
              LT (pI h5 (xR h5 (xR h5 (xR h5 a0 8) 0) 0) i1.toNatClampNeg i2) fun h17 =>
              G (xc h17 a0 = 11) <|
              BN (X11_grant_f a0 (nI 1) h17) fun v20 h19 =>
              if v20 = (nI 1) then (
                some (nI 1, h19)
              ) else (
                some (nI 0, h19)
              )
            ) else (
              X11_purse_B69 a0 h5
            )
          )
        )
      ) else (
        X11_purse_B16 a0 h
      )
    )
  )
theorem jX11_purse (x : CT) (a0 : Nat) (i1 : Int32) (i2 : Int32) (h : AH) : J x qX11_purse ZI 0 [(0, rv (zx x) a0), (1, .int i1), (2, .int i2)] [] h (X11_purse_f a0 i1 i2 h) := by
  unfold X11_purse_f
  refine J_aload_n 0 dX11_purse_0 rv_is rfl ?_
  refine J_G (fun g1 => ?_)
  refine J_getI kc_11 13 (by decide) rfl rfl kw_3_55 dX11_purse_1 g1 ?_
  refine J_if_eq (tgt := 16) dX11_purse_4 rfl ?_ ?_
  · exact J_sub [0] rfl (jX11_purse_B16 x a0 h)
  · refine J_iload_n 1 dX11_purse_7 rfl ?_
    refine J_if_lt (tgt := 16) dX11_purse_8 rfl ?_ ?_
    · exact J_sub [0] rfl (jX11_purse_B16 x a0 h)
    · refine J_iload_n 1 dX11_purse_11 rfl ?_
      refine J_iconst (v := nI 4) dX11_purse_12 rfl ?_
      refine J_icmp_lt (tgt := 31) dX11_purse_13 rfl ?_ ?_
      · refine J_iload_n 2 dX11_purse_31 rfl ?_
        refine J_if_lt (tgt := 69) dX11_purse_32 rfl ?_ ?_
        · exact J_sub [0] rfl (jX11_purse_B69 x a0 h)
        · refine J_iload_n 2 dX11_purse_35 rfl ?_
          refine J_iconst (v := nI 3) dX11_purse_36 rfl ?_
          refine J_icmp_gt (tgt := 69) dX11_purse_37 rfl ?_ ?_
          · exact J_sub [0] rfl (jX11_purse_B69 x a0 h)
          · refine J_aload_n 0 dX11_purse_40 rv_is rfl ?_
            refine J_G (fun g2 => ?_)
            refine J_getR kc_11 8 (by decide) rfl rfl kw_3_50 dX11_purse_41 g2 ?_
            refine J_G (fun g3 => ?_)
            refine J_getR kc_9 0 (by decide) rfl rfl kw_2_234 dX11_purse_44 g3 ?_
            refine J_G (fun g4 => ?_)
            refine J.callV (n := 0) (As := []) kc_5 (ctX5_total (lx x) (wx x) (xR h (xR h a0 8) 0) h) kw_4_85 kw_4_82 kw_4_83 kw_4_84 kw_1_8 (by decide +kernel) rfl (by decide) (Nat.zero_le _) rfl dX11_purse_47 g4 (fun v6 h5 => ?_)
            show J x _ _ 50 _ [.int v6] h5 _
            refine J_aload_n 0 dX11_purse_50 rv_is rfl ?_
            refine J_G (fun g7 => ?_)
            refine J_getR kc_11 8 (by decide) rfl rfl kw_3_50 dX11_purse_51 g7 ?_
            refine J_G (fun g8 => ?_)
            refine J_getR kc_9 0 (by decide) rfl rfl kw_2_234 dX11_purse_54 g8 ?_
            refine J_G (fun g9 => ?_)
            refine J_getR kc_5 0 (by decide) rfl rfl kw_2_78 dX11_purse_57 g9 ?_
            refine J_iload_n 1 dX11_purse_60 rfl ?_
            refine J_G (fun g10 => ?_)
            refine J_G (fun g11 => ?_)
            refine J_iald dX11_purse_61 g10 g11 ?_
            refine J_isub dX11_purse_62 ?_
            refine J_iload_n 2 dX11_purse_63 rfl ?_
            refine J_iadd dX11_purse_64 ?_
            refine J_iconst (v := nI 3) dX11_purse_65 rfl ?_
            refine J_icmp_le (tgt := 84) dX11_purse_66 rfl ?_ ?_
            · refine J_aload_n 0 dX11_purse_84 rv_is rfl ?_
              refine J_G (fun g12 => ?_)
              refine J_getR kc_11 8 (by decide) rfl rfl kw_3_50 dX11_purse_85 g12 ?_
              refine J_G (fun g13 => ?_)
              refine J_getR kc_9 0 (by decide) rfl rfl kw_2_234 dX11_purse_88 g13 ?_
              refine J_G (fun g14 => ?_)
              refine J_getR kc_5 0 (by decide) rfl rfl kw_2_78 dX11_purse_91 g14 ?_
              refine J_iload_n 1 dX11_purse_94 rfl ?_
              refine J_iload_n 2 dX11_purse_95 rfl ?_
              refine J_G (fun g15 => ?_)
              refine J_G (fun g16 => ?_)
              refine J_iast dX11_purse_96 g15 g16 ?_
              refine J_LTh (fun h17 => ?_)
              refine J_aload_n 0 dX11_purse_97 rv_is rfl ?_
              refine J_iconst (v := nI 1) dX11_purse_98 rfl ?_
              refine J_G (fun g18 => ?_)
              refine J.callV (n := 1) (As := [.int (nI 1)]) kc_11 (ctX11_grant (lx x) (wx x) a0 (nI 1) h17) kw_4_65 kw_4_62 kw_4_64 kp_1 kw_1_1 (by decide +kernel) rfl (by decide) (Nat.zero_le _) rfl dX11_purse_99 g18 (fun v20 h19 => ?_)
              show J x _ _ 102 _ [.int v20] h19 _
              refine J_iconst (v := nI 1) dX11_purse_102 rfl ?_
              refine J_icmp_ne (tgt := 110) dX11_purse_103 rfl ?_ ?_
              · refine J_iconst (v := nI 0) dX11_purse_110 rfl ?_
                exact J_zret dX11_purse_111 (by decide)
              · refine J_iconst (v := nI 1) dX11_purse_106 rfl ?_
                refine J_goto (tgt := 111) dX11_purse_107 rfl ?_
                exact J_zret dX11_purse_111 (by decide)
            · exact J_sub [0] rfl (jX11_purse_B69 x a0 h5)
      · exact J_sub [0] rfl (jX11_purse_B16 x a0 h)
theorem ctX11_purse (l : Launch) (w : WT) (a0 : Nat) (i1 : Int32) (i2 : Int32) (h : AH) : CM l w yX11_purse cX11_purse 3 (some .boolean) 1 21 KI [rv (w.1) a0, .int i1, .int i2] h (X11_purse_f a0 i1 i2 h) :=
  CM.of (by decide +kernel) (by simp [lg_sl, rv_cat, cat_I, cat_L, cat_S]) (lv := [(0, rv (w.1) a0), (1, .int i1), (2, .int i2)]) (by simp [lv_args, rv_cat, cat_I, cat_L, cat_S]) (fun x hx => by subst hx; exact jX11_purse x a0 i1 i2 h)
-- FallTrials.numberOf(III)I
abbrev qX11_numberOf : MT := (cX11_numberOf, RX11, "numberOf", (some .int), 0, 0, 3)
def X11_numberOf_f (i0 : Int32) (i1 : Int32) (i2 : Int32) (h : AH) : Option (Int32 × AH) :=
  some ((((nI 100) * i0) + ((nI 10) * i1)) + i2, h)
theorem jX11_numberOf (x : CT) (i0 : Int32) (i1 : Int32) (i2 : Int32) (h : AH) : J x qX11_numberOf ZI 0 [(0, .int i0), (1, .int i1), (2, .int i2)] [] h (X11_numberOf_f i0 i1 i2 h) := by
  unfold X11_numberOf_f
  refine J_bipush (v := nI 100) dX11_numberOf_0 rfl ?_
  refine J_iload_n 0 dX11_numberOf_2 rfl ?_
  refine J_imul dX11_numberOf_3 ?_
  refine J_bipush (v := nI 10) dX11_numberOf_4 rfl ?_
  refine J_iload_n 1 dX11_numberOf_6 rfl ?_
  refine J_imul dX11_numberOf_7 ?_
  refine J_iadd dX11_numberOf_8 ?_
  refine J_iload_n 2 dX11_numberOf_9 rfl ?_
  refine J_iadd dX11_numberOf_10 ?_
  exact J_iret dX11_numberOf_11
theorem ctX11_numberOf (l : Launch) (w : WT) (i0 : Int32) (i1 : Int32) (i2 : Int32) (h : AH) : CM l w yX11_numberOf cX11_numberOf 3 (some .int) 0 0 KI [.int i0, .int i1, .int i2] h (X11_numberOf_f i0 i1 i2 h) :=
  CM.of (by decide +kernel) (by simp [lg_sl, rv_cat, cat_I, cat_L, cat_S]) (lv := [(0, .int i0), (1, .int i1), (2, .int i2)]) (by simp [lv_args, rv_cat, cat_I, cat_L, cat_S]) (fun x hx => by subst hx; exact jX11_numberOf x i0 i1 i2 h)
-- FallTrials.clear()I
abbrev qX11_clear : MT := (cX11_clear, RX11, "clear", (some .int), 1, 20, 2)
def X11_clear_f (a0 : Nat) (h : AH) : Option (Int32 × AH) :=
  G (xc h a0 = 11) <|
  G (xc h (xR h a0 3) = 4) <|
  LT (xI h (xR h a0 3) 1) fun v3 =>
  BN (X4_wipe_f (xR h a0 3) h) fun _ h4 =>
  some (v3, h4)
theorem jX11_clear (x : CT) (a0 : Nat) (h : AH) : J x qX11_clear ZI 0 [(0, rv (zx x) a0)] [] h (X11_clear_f a0 h) := by
  unfold X11_clear_f
  refine J_aload_n 0 dX11_clear_0 rv_is rfl ?_
  refine J_G (fun g1 => ?_)
  refine J_getR kc_11 3 (by decide) rfl rfl kw_3_45 dX11_clear_1 g1 ?_
  refine J_G (fun g2 => ?_)
  refine J_getI kc_4 1 (by decide) rfl rfl kw_2_58 dX11_clear_4 g2 ?_
  refine J_LTi (fun v3 => ?_)
  refine J_istore_n dX11_clear_7 (by decide) (SD.c (lvr := [(0, rv (zx x) a0)]) [0] rfl rfl 0 rfl rfl rv_cat) ?_
  refine J_aload_n 1 dX11_clear_8 rv_is rfl ?_
  refine J_getR kc_11 3 (by decide) rfl rfl kw_3_45 dX11_clear_9 g1 ?_
  refine J.callV (n := 0) (As := []) kc_4 (ctX4_wipe (lx x) (wx x) (xR h a0 3) h) kw_4_52 kw_4_49 kw_4_50 kw_4_51 kw_1_6 (by decide +kernel) rfl (by decide) (Nat.zero_le _) rfl dX11_clear_12 g2 (fun _ h4 => ?_)
  show J x _ _ 15 _ [] h4 _
  refine J_iload_n 0 dX11_clear_15 rfl ?_
  exact J_iret dX11_clear_16
theorem ctX11_clear (l : Launch) (w : WT) (a0 : Nat) (h : AH) : CM l w yX11_clear cX11_clear 2 (some .int) 1 20 KI [rv (w.1) a0] h (X11_clear_f a0 h) :=
  CM.of (by decide +kernel) (by simp [lg_sl, rv_cat, cat_I, cat_L, cat_S]) (lv := [(0, rv (w.1) a0)]) (by simp [lv_args, rv_cat, cat_I, cat_L, cat_S]) (fun x hx => by subst hx; exact jX11_clear x a0 h)
-- FallTrials.cell(II)I
abbrev qX11_cell : MT := (cX11_cell, RX11, "cell", (some .int), 0, 0, 2)
def X11_cell_f (i0 : Int32) (i1 : Int32) (h : AH) : Option (Int32 × AH) :=
  some ((i0 * (nI 4)) + i1, h)
theorem jX11_cell (x : CT) (i0 : Int32) (i1 : Int32) (h : AH) : J x qX11_cell ZI 0 [(0, .int i0), (1, .int i1)] [] h (X11_cell_f i0 i1 h) := by
  unfold X11_cell_f
  refine J_iload_n 0 dX11_cell_0 rfl ?_
  refine J_iconst (v := nI 4) dX11_cell_1 rfl ?_
  refine J_imul dX11_cell_2 ?_
  refine J_iload_n 1 dX11_cell_3 rfl ?_
  refine J_iadd dX11_cell_4 ?_
  exact J_iret dX11_cell_5
theorem ctX11_cell (l : Launch) (w : WT) (i0 : Int32) (i1 : Int32) (h : AH) : CM l w yX11_cell cX11_cell 2 (some .int) 0 0 KI [.int i0, .int i1] h (X11_cell_f i0 i1 h) :=
  CM.of (by decide +kernel) (by simp [lg_sl, rv_cat, cat_I, cat_L, cat_S]) (lv := [(0, .int i0), (1, .int i1)]) (by simp [lv_args, rv_cat, cat_I, cat_L, cat_S]) (fun x hx => by subst hx; exact jX11_cell x i0 i1 h)
-- FallTrials.wrongPlace(III)I
abbrev qX11_wrongPlace : MT := (cX11_wrongPlace, RX11, "wrongPlace", (some .int), 0, 0, 4)
def X11_wrongPlace_B53 (h : AH) : Option (Int32 × AH) :=
  some (nI 2, h)
theorem jX11_wrongPlace_B53 (x : CT) (h : AH) : J x qX11_wrongPlace ZI 53 [] [] h (X11_wrongPlace_B53 h) := by
  unfold X11_wrongPlace_B53
  refine J_iconst (v := nI 2) dX11_wrongPlace_53 rfl ?_
  refine J_goto (tgt := 58) dX11_wrongPlace_54 rfl ?_
  exact J_iret dX11_wrongPlace_58
def X11_wrongPlace_f (a0 : Nat) (i1 : Int32) (i2 : Int32) (i3 : Int32) (h : AH) : Option (Int32 × AH) :=
  if i1 < 0 then (
    some (nI 1, h)
  ) else (
    G (xc h a0 = 11) <|
    G (xc h (xR h a0 1) = 10) <|
    G (xc h (xR h (xR h a0 1) 0) = 0) <|
    if (xI h (xR h (xR h a0 1) 0) 1) ≤ i1 then (
      some (nI 1, h)
    ) else (
      if i2 < 0 then (
        some (nI 1, h)
      ) else (
        G (xc h a0 = 11) <|
        G (xc h (xR h a0 1) = 10) <|
        G (xc h (xR h (xR h a0 1) 0) = 0) <|
        if i2 < (xI h (xR h (xR h a0 1) 0) 0) then (
          if i3 < 0 then (
            X11_wrongPlace_B53 h
          ) else (
            G (xc h a0 = 11) <|
            G (xc h (xR h a0 1) = 10) <|
            if i3 ≤ (xI h (xR h a0 1) 1) then (
              some (nI 0, h)
            ) else (
              X11_wrongPlace_B53 h
            )
          )
        ) else (
          some (nI 1, h)
        )
      )
    )
  )
theorem jX11_wrongPlace (x : CT) (a0 : Nat) (i1 : Int32) (i2 : Int32) (i3 : Int32) (h : AH) : J x qX11_wrongPlace ZI 0 [(0, rv (zx x) a0), (1, .int i1), (2, .int i2), (3, .int i3)] [] h (X11_wrongPlace_f a0 i1 i2 i3 h) := by
  unfold X11_wrongPlace_f
  refine J_iload_n 1 dX11_wrongPlace_0 rfl ?_
  refine J_if_lt (tgt := 36) dX11_wrongPlace_1 rfl ?_ ?_
  · refine J_iconst (v := nI 1) dX11_wrongPlace_36 rfl ?_
    exact J_iret dX11_wrongPlace_37
  · refine J_iload_n 1 dX11_wrongPlace_4 rfl ?_
    refine J_aload_n 0 dX11_wrongPlace_5 rv_is rfl ?_
    refine J_G (fun g1 => ?_)
    refine J_getR kc_11 1 (by decide) rfl rfl kw_3_43 dX11_wrongPlace_6 g1 ?_
    refine J_G (fun g2 => ?_)
    refine J_getR kc_10 0 (by decide) rfl rfl kw_2_13 dX11_wrongPlace_9 g2 ?_
    refine J_G (fun g3 => ?_)
    refine J_getI kc_0 1 (by decide) rfl rfl kw_1_114 dX11_wrongPlace_12 g3 ?_
    refine J_icmp_ge (tgt := 36) dX11_wrongPlace_15 rfl ?_ ?_
    · refine J_iconst (v := nI 1) dX11_wrongPlace_36 rfl ?_
      exact J_iret dX11_wrongPlace_37
    · refine J_iload_n 2 dX11_wrongPlace_18 rfl ?_
      refine J_if_lt (tgt := 36) dX11_wrongPlace_19 rfl ?_ ?_
      · refine J_iconst (v := nI 1) dX11_wrongPlace_36 rfl ?_
        exact J_iret dX11_wrongPlace_37
      · refine J_iload_n 2 dX11_wrongPlace_22 rfl ?_
        refine J_aload_n 0 dX11_wrongPlace_23 rv_is rfl ?_
        refine J_G (fun g4 => ?_)
        refine J_getR kc_11 1 (by decide) rfl rfl kw_3_43 dX11_wrongPlace_24 g4 ?_
        refine J_G (fun g5 => ?_)
        refine J_getR kc_10 0 (by decide) rfl rfl kw_2_13 dX11_wrongPlace_27 g5 ?_
        refine J_G (fun g6 => ?_)
        refine J_getI kc_0 0 (by decide) rfl rfl kw_1_107 dX11_wrongPlace_30 g6 ?_
        refine J_icmp_lt (tgt := 38) dX11_wrongPlace_33 rfl ?_ ?_
        · refine J_iload_n 3 dX11_wrongPlace_38 rfl ?_
          refine J_if_lt (tgt := 53) dX11_wrongPlace_39 rfl ?_ ?_
          · exact J_sub [] rfl (jX11_wrongPlace_B53 x h)
          · refine J_iload_n 3 dX11_wrongPlace_42 rfl ?_
            refine J_aload_n 0 dX11_wrongPlace_43 rv_is rfl ?_
            refine J_G (fun g7 => ?_)
            refine J_getR kc_11 1 (by decide) rfl rfl kw_3_43 dX11_wrongPlace_44 g7 ?_
            refine J_G (fun g8 => ?_)
            refine J_getI kc_10 1 (by decide) rfl rfl kw_2_22 dX11_wrongPlace_47 g8 ?_
            refine J_icmp_le (tgt := 57) dX11_wrongPlace_50 rfl ?_ ?_
            · refine J_iconst (v := nI 0) dX11_wrongPlace_57 rfl ?_
              exact J_iret dX11_wrongPlace_58
            · exact J_sub [] rfl (jX11_wrongPlace_B53 x h)
        · refine J_iconst (v := nI 1) dX11_wrongPlace_36 rfl ?_
          exact J_iret dX11_wrongPlace_37
theorem ctX11_wrongPlace (l : Launch) (w : WT) (a0 : Nat) (i1 : Int32) (i2 : Int32) (i3 : Int32) (h : AH) : CM l w yX11_wrongPlace cX11_wrongPlace 4 (some .int) 0 0 KI [rv (w.1) a0, .int i1, .int i2, .int i3] h (X11_wrongPlace_f a0 i1 i2 i3 h) :=
  CM.of (by decide +kernel) (by simp [lg_sl, rv_cat, cat_I, cat_L, cat_S]) (lv := [(0, rv (w.1) a0), (1, .int i1), (2, .int i2), (3, .int i3)]) (by simp [lv_args, rv_cat, cat_I, cat_L, cat_S]) (fun x hx => by subst hx; exact jX11_wrongPlace x a0 i1 i2 i3 h)
-- FallTrials.partOf(IIIII)I
abbrev qX11_partOf : MT := (cX11_partOf, RX11, "partOf", (some .int), 0, 0, 5)
def X11_partOf_f (i0 : Int32) (i1 : Int32) (i2 : Int32) (i3 : Int32) (i4 : Int32) (h : AH) : Option (Int32 × AH) :=
  if i0 = nI 0 then (
    some (i1, h)
  ) else (
  if i0 = nI 1 then (
    some (i2, h)
  ) else (
  if i0 = nI 2 then (
    some (i3, h)
  ) else (
  some (i4, h)
  )))
theorem jX11_partOf (x : CT) (i0 : Int32) (i1 : Int32) (i2 : Int32) (i3 : Int32) (i4 : Int32) (h : AH) : J x qX11_partOf ZI 0 [(0, .int i0), (1, .int i1), (2, .int i2), (3, .int i3), (4, .int i4)] [] h (X11_partOf_f i0 i1 i2 i3 i4 h) := by
  unfold X11_partOf_f
  refine J_iload_n 0 dX11_partOf_0 rfl ?_
  refine J_tcase (c0 := nI 0) (tgt := 28) dX11_partOf_1 (by decide) (by decide) rfl rfl ?_ (fun n1 => ?_)
  · refine J_iload_n 1 dX11_partOf_28 rfl ?_
    exact J_iret dX11_partOf_29
  refine J_tcase (c0 := nI 1) (tgt := 30) dX11_partOf_1 (by decide) (by decide) rfl rfl ?_ (fun n2 => ?_)
  · refine J_iload_n 2 dX11_partOf_30 rfl ?_
    exact J_iret dX11_partOf_31
  refine J_tcase (c0 := nI 2) (tgt := 32) dX11_partOf_1 (by decide) (by decide) rfl rfl ?_ (fun n3 => ?_)
  · refine J_iload_n 3 dX11_partOf_32 rfl ?_
    exact J_iret dX11_partOf_33
  refine J_tdef (tgt := 34) dX11_partOf_1 (by have := sw_ne (by decide : (nI 0 : Int32).toInt = 0) n1; have := sw_ne (by decide : (nI 1 : Int32).toInt = 1) n2; have := sw_ne (by decide : (nI 2 : Int32).toInt = 2) n3; omega) rfl ?_
  refine J_iload 4 dX11_partOf_34 rfl ?_
  exact J_iret dX11_partOf_36
theorem ctX11_partOf (l : Launch) (w : WT) (i0 : Int32) (i1 : Int32) (i2 : Int32) (i3 : Int32) (i4 : Int32) (h : AH) : CM l w yX11_partOf cX11_partOf 5 (some .int) 0 0 KI [.int i0, .int i1, .int i2, .int i3, .int i4] h (X11_partOf_f i0 i1 i2 i3 i4 h) :=
  CM.of (by decide +kernel) (by simp [lg_sl, rv_cat, cat_I, cat_L, cat_S]) (lv := [(0, .int i0), (1, .int i1), (2, .int i2), (3, .int i3), (4, .int i4)]) (by simp [lv_args, rv_cat, cat_I, cat_L, cat_S]) (fun x hx => by subst hx; exact jX11_partOf x i0 i1 i2 i3 i4 h)
-- FallTrials.tried()I
abbrev qX11_tried : MT := (cX11_tried, RX11, "tried", (some .int), 0, 0, 1)
def X11_tried_f (a0 : Nat) (h : AH) : Option (Int32 × AH) :=
  G (xc h a0 = 11) <|
  G (xc h (xR h a0 8) = 9) <|
  some (xI h (xR h a0 8) 10, h)
theorem jX11_tried (x : CT) (a0 : Nat) (h : AH) : J x qX11_tried ZI 0 [(0, rv (zx x) a0)] [] h (X11_tried_f a0 h) := by
  unfold X11_tried_f
  refine J_aload_n 0 dX11_tried_0 rv_is rfl ?_
  refine J_G (fun g1 => ?_)
  refine J_getR kc_11 8 (by decide) rfl rfl kw_3_50 dX11_tried_1 g1 ?_
  refine J_G (fun g2 => ?_)
  refine J_getI kc_9 10 (by decide) rfl rfl kw_3_8 dX11_tried_4 g2 ?_
  exact J_iret dX11_tried_7
theorem ctX11_tried (l : Launch) (w : WT) (a0 : Nat) (h : AH) : CM l w yX11_tried cX11_tried 1 (some .int) 0 0 KI [rv (w.1) a0] h (X11_tried_f a0 h) :=
  CM.of (by decide +kernel) (by simp [lg_sl, rv_cat, cat_I, cat_L, cat_S]) (lv := [(0, rv (w.1) a0)]) (by simp [lv_args, rv_cat, cat_I, cat_L, cat_S]) (fun x hx => by subst hx; exact jX11_tried x a0 h)
-- FallTrials.known()I
abbrev qX11_known : MT := (cX11_known, RX11, "known", (some .int), 0, 0, 1)
def X11_known_f (a0 : Nat) (h : AH) : Option (Int32 × AH) :=
  G (xc h a0 = 11) <|
  G (xc h (xR h a0 8) = 9) <|
  some (xI h (xR h a0 8) 11, h)
theorem jX11_known (x : CT) (a0 : Nat) (h : AH) : J x qX11_known ZI 0 [(0, rv (zx x) a0)] [] h (X11_known_f a0 h) := by
  unfold X11_known_f
  refine J_aload_n 0 dX11_known_0 rv_is rfl ?_
  refine J_G (fun g1 => ?_)
  refine J_getR kc_11 8 (by decide) rfl rfl kw_3_50 dX11_known_1 g1 ?_
  refine J_G (fun g2 => ?_)
  refine J_getI kc_9 11 (by decide) rfl rfl kw_3_10 dX11_known_4 g2 ?_
  exact J_iret dX11_known_7
theorem ctX11_known (l : Launch) (w : WT) (a0 : Nat) (h : AH) : CM l w yX11_known cX11_known 1 (some .int) 0 0 KI [rv (w.1) a0] h (X11_known_f a0 h) :=
  CM.of (by decide +kernel) (by simp [lg_sl, rv_cat, cat_I, cat_L, cat_S]) (lv := [(0, rv (w.1) a0)]) (by simp [lv_args, rv_cat, cat_I, cat_L, cat_S]) (fun x hx => by subst hx; exact jX11_known x a0 h)
-- FallTrials.found(I)I
abbrev qX11_found : MT := (cX11_found, RX11, "found", (some .int), 1, 21, 2)
def X11_found_f (a0 : Nat) (i1 : Int32) (h : AH) : Option (Int32 × AH) :=
  G (xc h a0 = 11) <|
  G (xc h (xR h a0 8) = 9) <|
  G (xc h (xR h (xR h a0 8) 5) = 4) <|
  BN (X4_at_f (xR h (xR h a0 8) 5) i1 h) fun v5 h4 =>
  some (v5, h4)
theorem jX11_found (x : CT) (a0 : Nat) (i1 : Int32) (h : AH) : J x qX11_found ZI 0 [(0, rv (zx x) a0), (1, .int i1)] [] h (X11_found_f a0 i1 h) := by
  unfold X11_found_f
  refine J_aload_n 0 dX11_found_0 rv_is rfl ?_
  refine J_G (fun g1 => ?_)
  refine J_getR kc_11 8 (by decide) rfl rfl kw_3_50 dX11_found_1 g1 ?_
  refine J_G (fun g2 => ?_)
  refine J_getR kc_9 5 (by decide) rfl rfl kw_3_0 dX11_found_4 g2 ?_
  refine J_iload_n 1 dX11_found_7 rfl ?_
  refine J_G (fun g3 => ?_)
  refine J.callV (n := 1) (As := [.int i1]) kc_4 (ctX4_at (lx x) (wx x) (xR h (xR h a0 8) 5) i1 h) kw_5_177 kw_5_174 kw_5_175 kw_5_176 kw_1_6 (by decide +kernel) rfl (by decide) (Nat.zero_le _) rfl dX11_found_8 g3 (fun v5 h4 => ?_)
  show J x _ _ 11 _ [.int v5] h4 _
  exact J_iret dX11_found_11
theorem ctX11_found (l : Launch) (w : WT) (a0 : Nat) (i1 : Int32) (h : AH) : CM l w yX11_found cX11_found 2 (some .int) 1 21 KI [rv (w.1) a0, .int i1] h (X11_found_f a0 i1 h) :=
  CM.of (by decide +kernel) (by simp [lg_sl, rv_cat, cat_I, cat_L, cat_S]) (lv := [(0, rv (w.1) a0), (1, .int i1)]) (by simp [lv_args, rv_cat, cat_I, cat_L, cat_S]) (fun x hx => by subst hx; exact jX11_found x a0 i1 h)
-- FallTrials.exactly(I)I
abbrev qX11_exactly : MT := (cX11_exactly, RX11, "exactly", (some .int), 1, 21, 2)
def X11_exactly_f (a0 : Nat) (i1 : Int32) (h : AH) : Option (Int32 × AH) :=
  G (xc h a0 = 11) <|
  G (xc h (xR h a0 8) = 9) <|
  G (xc h (xR h (xR h a0 8) 6) = 4) <|
  BN (X4_at_f (xR h (xR h a0 8) 6) i1 h) fun v5 h4 =>
  some (v5, h4)
theorem jX11_exactly (x : CT) (a0 : Nat) (i1 : Int32) (h : AH) : J x qX11_exactly ZI 0 [(0, rv (zx x) a0), (1, .int i1)] [] h (X11_exactly_f a0 i1 h) := by
  unfold X11_exactly_f
  refine J_aload_n 0 dX11_exactly_0 rv_is rfl ?_
  refine J_G (fun g1 => ?_)
  refine J_getR kc_11 8 (by decide) rfl rfl kw_3_50 dX11_exactly_1 g1 ?_
  refine J_G (fun g2 => ?_)
  refine J_getR kc_9 6 (by decide) rfl rfl kw_3_2 dX11_exactly_4 g2 ?_
  refine J_iload_n 1 dX11_exactly_7 rfl ?_
  refine J_G (fun g3 => ?_)
  refine J.callV (n := 1) (As := [.int i1]) kc_4 (ctX4_at (lx x) (wx x) (xR h (xR h a0 8) 6) i1 h) kw_5_177 kw_5_174 kw_5_175 kw_5_176 kw_1_6 (by decide +kernel) rfl (by decide) (Nat.zero_le _) rfl dX11_exactly_8 g3 (fun v5 h4 => ?_)
  show J x _ _ 11 _ [.int v5] h4 _
  exact J_iret dX11_exactly_11
theorem ctX11_exactly (l : Launch) (w : WT) (a0 : Nat) (i1 : Int32) (h : AH) : CM l w yX11_exactly cX11_exactly 2 (some .int) 1 21 KI [rv (w.1) a0, .int i1] h (X11_exactly_f a0 i1 h) :=
  CM.of (by decide +kernel) (by simp [lg_sl, rv_cat, cat_I, cat_L, cat_S]) (lv := [(0, rv (w.1) a0), (1, .int i1)]) (by simp [lv_args, rv_cat, cat_I, cat_L, cat_S]) (fun x hx => by subst hx; exact jX11_exactly x a0 i1 h)
-- FallTrials.told(I)I
abbrev qX11_told : MT := (cX11_told, RX11, "told", (some .int), 1, 21, 2)
def X11_told_f (a0 : Nat) (i1 : Int32) (h : AH) : Option (Int32 × AH) :=
  G (xc h a0 = 11) <|
  G (xc h (xR h a0 3) = 4) <|
  BN (X4_at_f (xR h a0 3) i1 h) fun v4 h3 =>
  some (v4, h3)
theorem jX11_told (x : CT) (a0 : Nat) (i1 : Int32) (h : AH) : J x qX11_told ZI 0 [(0, rv (zx x) a0), (1, .int i1)] [] h (X11_told_f a0 i1 h) := by
  unfold X11_told_f
  refine J_aload_n 0 dX11_told_0 rv_is rfl ?_
  refine J_G (fun g1 => ?_)
  refine J_getR kc_11 3 (by decide) rfl rfl kw_3_45 dX11_told_1 g1 ?_
  refine J_iload_n 1 dX11_told_4 rfl ?_
  refine J_G (fun g2 => ?_)
  refine J.callV (n := 1) (As := [.int i1]) kc_4 (ctX4_at (lx x) (wx x) (xR h a0 3) i1 h) kw_5_177 kw_5_174 kw_5_175 kw_5_176 kw_1_6 (by decide +kernel) rfl (by decide) (Nat.zero_le _) rfl dX11_told_5 g2 (fun v4 h3 => ?_)
  show J x _ _ 8 _ [.int v4] h3 _
  exact J_iret dX11_told_8
theorem ctX11_told (l : Launch) (w : WT) (a0 : Nat) (i1 : Int32) (h : AH) : CM l w yX11_told cX11_told 2 (some .int) 1 21 KI [rv (w.1) a0, .int i1] h (X11_told_f a0 i1 h) :=
  CM.of (by decide +kernel) (by simp [lg_sl, rv_cat, cat_I, cat_L, cat_S]) (lv := [(0, rv (w.1) a0), (1, .int i1)]) (by simp [lv_args, rv_cat, cat_I, cat_L, cat_S]) (fun x hx => by subst hx; exact jX11_told x a0 i1 h)
-- FallTrials.start(I)Z
abbrev qX11_start : MT := (cX11_start, RX11, "start", (some .boolean), 1, 21, 2)
def X11_start_B42 (a0 : Nat) (h : AH) : Option (Int32 × AH) :=
  G (xc h a0 = 11) <|
  BN (X11_refuse_f a0 (nI 2) h) fun v3 h2 =>
  if v3 = (-1) then (
    some (nI 0, h2)
  ) else (
    some (nI 1, h2)
  )
theorem jX11_start_B42 (x : CT) (a0 : Nat) (h : AH) : J x qX11_start ZI 42 [(0, rv (zx x) a0)] [] h (X11_start_B42 a0 h) := by
  unfold X11_start_B42
  refine J_aload_n 0 dX11_start_42 rv_is rfl ?_
  refine J_iconst (v := nI 2) dX11_start_43 rfl ?_
  refine J_G (fun g1 => ?_)
  refine J.callV (n := 1) (As := [.int (nI 2)]) kc_11 (ctX11_refuse (lx x) (wx x) a0 (nI 2) h) kw_3_112 kw_3_109 kw_3_111 kp_0 kw_1_1 (by decide +kernel) rfl (by decide) (Nat.zero_le _) rfl dX11_start_44 g1 (fun v3 h2 => ?_)
  show J x _ _ 47 _ [.int v3] h2 _
  refine J_iconst (v := (-1)) dX11_start_47 rfl ?_
  refine J_icmp_eq (tgt := 55) dX11_start_48 rfl ?_ ?_
  · refine J_iconst (v := nI 0) dX11_start_55 rfl ?_
    exact J_zret dX11_start_56 (by decide)
  · refine J_iconst (v := nI 1) dX11_start_51 rfl ?_
    refine J_goto (tgt := 56) dX11_start_52 rfl ?_
    exact J_zret dX11_start_56 (by decide)
def X11_start_f (a0 : Nat) (i1 : Int32) (h : AH) : Option (Int32 × AH) :=
  G (xc h a0 = 11) <|
  if (xI h a0 13) = 0 then (
    G (xc h a0 = 11) <|
    BN (X11_refuse_f a0 (nI 1) h) fun v13 h12 =>
    if v13 = (-1) then (
      some (nI 0, h12)
    ) else (
      some (nI 1, h12)
    )
  ) else (
    if i1 < 0 then (
      X11_start_B42 a0 h
    ) else (
      G (xc h a0 = 11) <|
      G (xc h (xR h a0 1) = 10) <|
      G (xc h (xR h (xR h a0 1) 0) = 0) <|
      if i1 < ((nI 1) <<< ((xI h (xR h (xR h a0 1) 0) 5) &&& 31)) then (
        G (xc h a0 = 11) <|
        G (xc h (xR h a0 1) = 10) <|
        LT (pI h (xR h a0 1) 2 i1) fun h7 =>
        G (xc h7 a0 = 11) <|
        BN (X11_grant_f a0 (nI 1) h7) fun v10 h9 =>
        if v10 = (nI 1) then (
          some (nI 1, h9)
        ) else (
          some (nI 0, h9)
        )
      ) else (
        X11_start_B42 a0 h
      )
    )
  )
theorem jX11_start (x : CT) (a0 : Nat) (i1 : Int32) (h : AH) : J x qX11_start ZI 0 [(0, rv (zx x) a0), (1, .int i1)] [] h (X11_start_f a0 i1 h) := by
  unfold X11_start_f
  refine J_aload_n 0 dX11_start_0 rv_is rfl ?_
  refine J_G (fun g1 => ?_)
  refine J_getI kc_11 13 (by decide) rfl rfl kw_3_55 dX11_start_1 g1 ?_
  refine J_if_ne (tgt := 22) dX11_start_4 rfl ?_ ?_
  · refine J_iload_n 1 dX11_start_22 rfl ?_
    refine J_if_lt (tgt := 42) dX11_start_23 rfl ?_ ?_
    · exact J_sub [0] rfl (jX11_start_B42 x a0 h)
    · refine J_iload_n 1 dX11_start_26 rfl ?_
      refine J_iconst (v := nI 1) dX11_start_27 rfl ?_
      refine J_aload_n 0 dX11_start_28 rv_is rfl ?_
      refine J_G (fun g2 => ?_)
      refine J_getR kc_11 1 (by decide) rfl rfl kw_3_43 dX11_start_29 g2 ?_
      refine J_G (fun g3 => ?_)
      refine J_getR kc_10 0 (by decide) rfl rfl kw_2_13 dX11_start_32 g3 ?_
      refine J_G (fun g4 => ?_)
      refine J_getI kc_0 5 (by decide) rfl rfl kw_1_133 dX11_start_35 g4 ?_
      refine J_ishl dX11_start_38 ?_
      refine J_icmp_lt (tgt := 57) dX11_start_39 rfl ?_ ?_
      · refine J_aload_n 0 dX11_start_57 rv_is rfl ?_
        refine J_G (fun g5 => ?_)
        refine J_getR kc_11 1 (by decide) rfl rfl kw_3_43 dX11_start_58 g5 ?_
        refine J_iload_n 1 dX11_start_61 rfl ?_
        refine J_G (fun g6 => ?_)
        refine J_putI kc_10 2 (by decide) rfl rfl rfl rfl (Or.inl rfl) kw_2_28 dX11_start_62 g6 ?_
        refine J_LTh (fun h7 => ?_)
        refine J_aload_n 0 dX11_start_65 rv_is rfl ?_
        refine J_iconst (v := nI 1) dX11_start_66 rfl ?_
        refine J_G (fun g8 => ?_)
        refine J.callV (n := 1) (As := [.int (nI 1)]) kc_11 (ctX11_grant (lx x) (wx x) a0 (nI 1) h7) kw_4_65 kw_4_62 kw_4_64 kp_1 kw_1_1 (by decide +kernel) rfl (by decide) (Nat.zero_le _) rfl dX11_start_67 g8 (fun v10 h9 => ?_)
        show J x _ _ 70 _ [.int v10] h9 _
        refine J_iconst (v := nI 1) dX11_start_70 rfl ?_
        refine J_icmp_ne (tgt := 78) dX11_start_71 rfl ?_ ?_
        · refine J_iconst (v := nI 0) dX11_start_78 rfl ?_
          exact J_zret dX11_start_79 (by decide)
        · refine J_iconst (v := nI 1) dX11_start_74 rfl ?_
          refine J_goto (tgt := 79) dX11_start_75 rfl ?_
          exact J_zret dX11_start_79 (by decide)
      · exact J_sub [0] rfl (jX11_start_B42 x a0 h)
  · refine J_aload_n 0 dX11_start_7 rv_is rfl ?_
    refine J_iconst (v := nI 1) dX11_start_8 rfl ?_
    refine J_G (fun g11 => ?_)
    refine J.callV (n := 1) (As := [.int (nI 1)]) kc_11 (ctX11_refuse (lx x) (wx x) a0 (nI 1) h) kw_3_112 kw_3_109 kw_3_111 kp_0 kw_1_1 (by decide +kernel) rfl (by decide) (Nat.zero_le _) rfl dX11_start_9 g11 (fun v13 h12 => ?_)
    show J x _ _ 12 _ [.int v13] h12 _
    refine J_iconst (v := (-1)) dX11_start_12 rfl ?_
    refine J_icmp_eq (tgt := 20) dX11_start_13 rfl ?_ ?_
    · refine J_iconst (v := nI 0) dX11_start_20 rfl ?_
      exact J_zret dX11_start_21 (by decide)
    · refine J_iconst (v := nI 1) dX11_start_16 rfl ?_
      refine J_goto (tgt := 21) dX11_start_17 rfl ?_
      exact J_zret dX11_start_21 (by decide)
theorem ctX11_start (l : Launch) (w : WT) (a0 : Nat) (i1 : Int32) (h : AH) : CM l w yX11_start cX11_start 2 (some .boolean) 1 21 KI [rv (w.1) a0, .int i1] h (X11_start_f a0 i1 h) :=
  CM.of (by decide +kernel) (by simp [lg_sl, rv_cat, cat_I, cat_L, cat_S]) (lv := [(0, rv (w.1) a0), (1, .int i1)]) (by simp [lv_args, rv_cat, cat_I, cat_L, cat_S]) (fun x hx => by subst hx; exact jX11_start x a0 i1 h)
-- FallTrials.thinness()I
abbrev qX11_thinness : MT := (cX11_thinness, RX11, "thinness", (some .int), 0, 0, 1)
def X11_thinness_f (a0 : Nat) (h : AH) : Option (Int32 × AH) :=
  G (xc h a0 = 11) <|
  G (xc h (xR h a0 8) = 9) <|
  some (xI h (xR h a0 8) 12, h)
theorem jX11_thinness (x : CT) (a0 : Nat) (h : AH) : J x qX11_thinness ZI 0 [(0, rv (zx x) a0)] [] h (X11_thinness_f a0 h) := by
  unfold X11_thinness_f
  refine J_aload_n 0 dX11_thinness_0 rv_is rfl ?_
  refine J_G (fun g1 => ?_)
  refine J_getR kc_11 8 (by decide) rfl rfl kw_3_50 dX11_thinness_1 g1 ?_
  refine J_G (fun g2 => ?_)
  refine J_getI kc_9 12 (by decide) rfl rfl kw_3_12 dX11_thinness_4 g2 ?_
  exact J_iret dX11_thinness_7
theorem ctX11_thinness (l : Launch) (w : WT) (a0 : Nat) (h : AH) : CM l w yX11_thinness cX11_thinness 1 (some .int) 0 0 KI [rv (w.1) a0] h (X11_thinness_f a0 h) :=
  CM.of (by decide +kernel) (by simp [lg_sl, rv_cat, cat_I, cat_L, cat_S]) (lv := [(0, rv (w.1) a0)]) (by simp [lv_args, rv_cat, cat_I, cat_L, cat_S]) (fun x hx => by subst hx; exact jX11_thinness x a0 h)
-- FallTrials.mend(II)I
abbrev qX11_mend : MT := (cX11_mend, RX11, "mend", (some .int), 1, 22, 5)
def X11_mend_B9 (a0 : Nat) (h : AH) : Option (Int32 × AH) :=
  G (xc h a0 = 11) <|
  BN (X11_refuse_f a0 (nI 1) h) fun v3 h2 =>
  some (v3, h2)
theorem jX11_mend_B9 (x : CT) (a0 : Nat) (h : AH) : J x qX11_mend ZI 9 [(0, rv (zx x) a0)] [] h (X11_mend_B9 a0 h) := by
  unfold X11_mend_B9
  refine J_aload_n 0 dX11_mend_9 rv_is rfl ?_
  refine J_iconst (v := nI 1) dX11_mend_10 rfl ?_
  refine J_G (fun g1 => ?_)
  refine J.callV (n := 1) (As := [.int (nI 1)]) kc_11 (ctX11_refuse (lx x) (wx x) a0 (nI 1) h) kw_3_112 kw_3_109 kw_3_111 kp_0 kw_1_1 (by decide +kernel) rfl (by decide) (Nat.zero_le _) rfl dX11_mend_11 g1 (fun v3 h2 => ?_)
  show J x _ _ 14 _ [.int v3] h2 _
  exact J_iret dX11_mend_14
def X11_mend_B52 (a0 : Nat) (h : AH) : Option (Int32 × AH) :=
  G (xc h a0 = 11) <|
  BN (X11_refuse_f a0 (nI 1) h) fun v3 h2 =>
  some (v3, h2)
theorem jX11_mend_B52 (x : CT) (a0 : Nat) (h : AH) : J x qX11_mend ZI 52 [(0, rv (zx x) a0)] [] h (X11_mend_B52 a0 h) := by
  unfold X11_mend_B52
  refine J_aload_n 0 dX11_mend_52 rv_is rfl ?_
  refine J_iconst (v := nI 1) dX11_mend_53 rfl ?_
  refine J_G (fun g1 => ?_)
  refine J.callV (n := 1) (As := [.int (nI 1)]) kc_11 (ctX11_refuse (lx x) (wx x) a0 (nI 1) h) kw_3_112 kw_3_109 kw_3_111 kp_0 kw_1_1 (by decide +kernel) rfl (by decide) (Nat.zero_le _) rfl dX11_mend_54 g1 (fun v3 h2 => ?_)
  show J x _ _ 57 _ [.int v3] h2 _
  exact J_iret dX11_mend_57
def X11_mend_B42 (a0 : Nat) (i1 : Int32) (i2 : Int32) (is0 : Int32) (h : AH) : Option (Int32 × AH) :=
  if i2 < 0 then (
    X11_mend_B52 a0 h
  ) else (
    if i2 < is0 then (
      LT ((i1 * (nI 10)) + i2) fun v1 =>
      G (xc h a0 = 11) <|
      G (xc h (xR h a0 6) = 4) <|
      BN (X4_has_f (xR h a0 6) v1 h) fun v5 h4 =>
      if v5 = 0 then (
        G (xc h4 a0 = 11) <|
        G (xc h4 (xR h4 a0 6) = 4) <|
        if (xI h4 (xR h4 a0 6) 1) = (nI 6) then (
          G (xc h4 a0 = 11) <|
          BN (X11_refuse_f a0 (nI 3) h4) fun v17 h16 =>
          some (v17, h16)
        ) else (
          G (xc h4 a0 = 11) <|
          G (xc h4 (xR h4 a0 6) = 4) <|
          BN (X4_append_f (xR h4 a0 6) v1 h4) fun _ h10 =>
          G (xc h10 a0 = 11) <|
          G (xc h10 (xR h10 a0 6) = 4) <|
          BN (X11_grant_f a0 ((xI h10 (xR h10 a0 6) 1) - (nI 1)) h10) fun v14 h13 =>
          some (v14, h13)
        )
      ) else (
        G (xc h4 a0 = 11) <|
        BN (X11_refuse_f a0 (nI 5) h4) fun v20 h19 =>
        some (v20, h19)
      )
    ) else (
      X11_mend_B52 a0 h
    )
  )
theorem jX11_mend_B42 (x : CT) (a0 : Nat) (i1 : Int32) (i2 : Int32) (is0 : Int32) (h : AH) : J x qX11_mend ZI 42 [(0, rv (zx x) a0), (1, .int i1), (2, .int i2)] [.int is0] h (X11_mend_B42 a0 i1 i2 is0 h) := by
  unfold X11_mend_B42
  refine J_istore_n dX11_mend_42 (by decide) (SD.a (lvr := [(0, rv (zx x) a0), (1, .int i1), (2, .int i2)]) [0, 1, 2] rfl rfl) ?_
  refine J_iload_n 3 dX11_mend_43 rfl ?_
  refine J_if_lt (tgt := 52) dX11_mend_44 rfl ?_ ?_
  · exact J_sub [1] rfl (jX11_mend_B52 x a0 h)
  · refine J_iload_n 3 dX11_mend_47 rfl ?_
    refine J_iload_n 0 dX11_mend_48 rfl ?_
    refine J_icmp_lt (tgt := 58) dX11_mend_49 rfl ?_ ?_
    · refine J_iload_n 2 dX11_mend_58 rfl ?_
      refine J_bipush (v := nI 10) dX11_mend_59 rfl ?_
      refine J_imul dX11_mend_61 ?_
      refine J_iload_n 3 dX11_mend_62 rfl ?_
      refine J_iadd dX11_mend_63 ?_
      refine J_LTi (fun v1 => ?_)
      refine J_istore dX11_mend_64 (by decide) (SD.a (lvr := [(0, rv (zx x) a0)]) [1] rfl rfl) ?_
      refine J_aload_n 1 dX11_mend_66 rv_is rfl ?_
      refine J_G (fun g2 => ?_)
      refine J_getR kc_11 6 (by decide) rfl rfl kw_3_48 dX11_mend_67 g2 ?_
      refine J_iload 0 dX11_mend_70 rfl ?_
      refine J_G (fun g3 => ?_)
      refine J.callV (n := 1) (As := [.int v1]) kc_4 (ctX4_has (lx x) (wx x) (xR h a0 6) v1 h) kw_4_100 kw_4_97 kw_4_98 kw_4_99 kw_1_6 (by decide +kernel) rfl (by decide) (Nat.zero_le _) rfl dX11_mend_72 g3 (fun v5 h4 => ?_)
      show J x _ _ 75 _ [.int v5] h4 _
      refine J_if_eq (tgt := 84) dX11_mend_75 rfl ?_ ?_
      · refine J_aload_n 1 dX11_mend_84 rv_is rfl ?_
        refine J_G (fun g6 => ?_)
        refine J_getR kc_11 6 (by decide) rfl rfl kw_3_48 dX11_mend_85 g6 ?_
        refine J_G (fun g7 => ?_)
        refine J_getI kc_4 1 (by decide) rfl rfl kw_2_58 dX11_mend_88 g7 ?_
        refine J_bipush (v := nI 6) dX11_mend_91 rfl ?_
        refine J_icmp_ne (tgt := 102) dX11_mend_93 rfl ?_ ?_
        · refine J_aload_n 1 dX11_mend_102 rv_is rfl ?_
          refine J_G (fun g8 => ?_)
          refine J_getR kc_11 6 (by decide) rfl rfl kw_3_48 dX11_mend_103 g8 ?_
          refine J_iload 0 dX11_mend_106 rfl ?_
          refine J_G (fun g9 => ?_)
          refine J.callV (n := 1) (As := [.int v1]) kc_4 (ctX4_append (lx x) (wx x) (xR h4 a0 6) v1 h4) kw_5_156 kw_6_5 kw_5_154 kw_5_155 kw_1_6 (by decide +kernel) rfl (by decide) (Nat.zero_le _) rfl dX11_mend_108 g9 (fun _ h10 => ?_)
          show J x _ _ 111 _ [] h10 _
          refine J_aload_n 1 dX11_mend_111 rv_is rfl ?_
          refine J_aload_n 1 dX11_mend_112 rv_is rfl ?_
          refine J_G (fun g11 => ?_)
          refine J_getR kc_11 6 (by decide) rfl rfl kw_3_48 dX11_mend_113 g11 ?_
          refine J_G (fun g12 => ?_)
          refine J_getI kc_4 1 (by decide) rfl rfl kw_2_58 dX11_mend_116 g12 ?_
          refine J_iconst (v := nI 1) dX11_mend_119 rfl ?_
          refine J_isub dX11_mend_120 ?_
          refine J.callV (n := 1) (As := [.int ((xI h10 (xR h10 a0 6) 1) - (nI 1))]) kc_11 (ctX11_grant (lx x) (wx x) a0 ((xI h10 (xR h10 a0 6) 1) - (nI 1)) h10) kw_4_65 kw_4_62 kw_4_64 kp_1 kw_1_1 (by decide +kernel) rfl (by decide) (Nat.zero_le _) rfl dX11_mend_121 g11 (fun v14 h13 => ?_)
          show J x _ _ 124 _ [.int v14] h13 _
          exact J_iret dX11_mend_124
        · refine J_aload_n 1 dX11_mend_96 rv_is rfl ?_
          refine J_iconst (v := nI 3) dX11_mend_97 rfl ?_
          refine J_G (fun g15 => ?_)
          refine J.callV (n := 1) (As := [.int (nI 3)]) kc_11 (ctX11_refuse (lx x) (wx x) a0 (nI 3) h4) kw_3_112 kw_3_109 kw_3_111 kp_0 kw_1_1 (by decide +kernel) rfl (by decide) (Nat.zero_le _) rfl dX11_mend_98 g15 (fun v17 h16 => ?_)
          show J x _ _ 101 _ [.int v17] h16 _
          exact J_iret dX11_mend_101
      · refine J_aload_n 1 dX11_mend_78 rv_is rfl ?_
        refine J_iconst (v := nI 5) dX11_mend_79 rfl ?_
        refine J_G (fun g18 => ?_)
        refine J.callV (n := 1) (As := [.int (nI 5)]) kc_11 (ctX11_refuse (lx x) (wx x) a0 (nI 5) h4) kw_3_112 kw_3_109 kw_3_111 kp_0 kw_1_1 (by decide +kernel) rfl (by decide) (Nat.zero_le _) rfl dX11_mend_80 g18 (fun v20 h19 => ?_)
        show J x _ _ 83 _ [.int v20] h19 _
        exact J_iret dX11_mend_83
    · exact J_sub [1] rfl (jX11_mend_B52 x a0 h)
def X11_mend_f (a0 : Nat) (i1 : Int32) (i2 : Int32) (h : AH) : Option (Int32 × AH) :=
  if i1 < 0 then (
    X11_mend_B9 a0 h
  ) else (
    if i1 ≤ (nI 2) then (
      if i1 = 0 then (
        G (xc h a0 = 11) <|
        G (xc h (xR h a0 1) = 10) <|
        G (xc h (xR h (xR h a0 1) 0) = 0) <|
        X11_mend_B42 a0 i1 i2 (xI h (xR h (xR h a0 1) 0) 1) h
      ) else (
        G (xc h a0 = 11) <|
        G (xc h (xR h a0 1) = 10) <|
        G (xc h (xR h (xR h a0 1) 0) = 0) <|
        X11_mend_B42 a0 i1 i2 (xI h (xR h (xR h a0 1) 0) 4) h
      )
    ) else (
      X11_mend_B9 a0 h
    )
  )
theorem jX11_mend (x : CT) (a0 : Nat) (i1 : Int32) (i2 : Int32) (h : AH) : J x qX11_mend ZI 0 [(0, rv (zx x) a0), (1, .int i1), (2, .int i2)] [] h (X11_mend_f a0 i1 i2 h) := by
  unfold X11_mend_f
  refine J_iload_n 1 dX11_mend_0 rfl ?_
  refine J_if_lt (tgt := 9) dX11_mend_1 rfl ?_ ?_
  · exact J_sub [0] rfl (jX11_mend_B9 x a0 h)
  · refine J_iload_n 1 dX11_mend_4 rfl ?_
    refine J_iconst (v := nI 2) dX11_mend_5 rfl ?_
    refine J_icmp_le (tgt := 15) dX11_mend_6 rfl ?_ ?_
    · refine J_iload_n 1 dX11_mend_15 rfl ?_
      refine J_if_ne (tgt := 32) dX11_mend_16 rfl ?_ ?_
      · refine J_aload_n 0 dX11_mend_32 rv_is rfl ?_
        refine J_G (fun g1 => ?_)
        refine J_getR kc_11 1 (by decide) rfl rfl kw_3_43 dX11_mend_33 g1 ?_
        refine J_G (fun g2 => ?_)
        refine J_getR kc_10 0 (by decide) rfl rfl kw_2_13 dX11_mend_36 g2 ?_
        refine J_G (fun g3 => ?_)
        refine J_getI kc_0 4 (by decide) rfl rfl kw_1_127 dX11_mend_39 g3 ?_
        exact (jX11_mend_B42 x a0 i1 i2 (xI h (xR h (xR h a0 1) 0) 4) h)
      · refine J_aload_n 0 dX11_mend_19 rv_is rfl ?_
        refine J_G (fun g4 => ?_)
        refine J_getR kc_11 1 (by decide) rfl rfl kw_3_43 dX11_mend_20 g4 ?_
        refine J_G (fun g5 => ?_)
        refine J_getR kc_10 0 (by decide) rfl rfl kw_2_13 dX11_mend_23 g5 ?_
        refine J_G (fun g6 => ?_)
        refine J_getI kc_0 1 (by decide) rfl rfl kw_1_114 dX11_mend_26 g6 ?_
        refine J_goto (tgt := 42) dX11_mend_29 rfl ?_
        exact (jX11_mend_B42 x a0 i1 i2 (xI h (xR h (xR h a0 1) 0) 1) h)
    · exact J_sub [0] rfl (jX11_mend_B9 x a0 h)
theorem ctX11_mend (l : Launch) (w : WT) (a0 : Nat) (i1 : Int32) (i2 : Int32) (h : AH) : CM l w yX11_mend cX11_mend 5 (some .int) 1 22 KI [rv (w.1) a0, .int i1, .int i2] h (X11_mend_f a0 i1 i2 h) :=
  CM.of (by decide +kernel) (by simp [lg_sl, rv_cat, cat_I, cat_L, cat_S]) (lv := [(0, rv (w.1) a0), (1, .int i1), (2, .int i2)]) (by simp [lv_args, rv_cat, cat_I, cat_L, cat_S]) (fun x hx => by subst hx; exact jX11_mend x a0 i1 i2 h)
-- FallTrials.keep()I
abbrev qX11_keep : MT := (cX11_keep, RX11, "keep", (some .int), 2, 43, 1)
def X11_keep_f (a0 : Nat) (h : AH) : Option (Int32 × AH) :=
  G (xc h a0 = 11) <|
  if (xI h a0 13) = 0 then (
    G (xc h a0 = 11) <|
    BN (X11_refuse_f a0 (nI 1) h) fun v23 h22 =>
    some (v23, h22)
  ) else (
    G (xc h a0 = 11) <|
    G (xc h (xR h a0 3) = 4) <|
    if (xI h (xR h a0 3) 1) = 0 then (
      G (xc h a0 = 11) <|
      BN (X11_refuse_f a0 (nI 5) h) fun v20 h19 =>
      some (v20, h19)
    ) else (
      G (xc h a0 = 11) <|
      if (xI h a0 14) = (nI 8) then (
        G (xc h a0 = 11) <|
        BN (X11_refuse_f a0 (nI 3) h) fun v17 h16 =>
        some (v17, h16)
      ) else (
        G (xc h a0 = 11) <|
        G (xc h (xR h a0 7) = 21) <|
        G (gx (xI h a0 14) (xz h (xR h a0 7))) <|
        G (xc h (xR h (xR h a0 7) (xI h a0 14).toNatClampNeg) = 4) <|
        BN (X4_take_f (xR h (xR h a0 7) (xI h a0 14).toNatClampNeg) (xR h a0 3) h) fun _ h9 =>
        G (xc h9 a0 = 11) <|
        LT (pI h9 a0 14 ((xI h9 a0 14) + (nI 1))) fun h11 =>
        G (xc h11 a0 = 11) <|
        BN (X11_grant_f a0 (xI h11 a0 14) h11) fun v14 h13 =>
        some (v14, h13)
      )
    )
  )
theorem jX11_keep (x : CT) (a0 : Nat) (h : AH) : J x qX11_keep ZI 0 [(0, rv (zx x) a0)] [] h (X11_keep_f a0 h) := by
  unfold X11_keep_f
  refine J_aload_n 0 dX11_keep_0 rv_is rfl ?_
  refine J_G (fun g1 => ?_)
  refine J_getI kc_11 13 (by decide) rfl rfl kw_3_55 dX11_keep_1 g1 ?_
  refine J_if_ne (tgt := 13) dX11_keep_4 rfl ?_ ?_
  · refine J_aload_n 0 dX11_keep_13 rv_is rfl ?_
    refine J_G (fun g2 => ?_)
    refine J_getR kc_11 3 (by decide) rfl rfl kw_3_45 dX11_keep_14 g2 ?_
    refine J_G (fun g3 => ?_)
    refine J_getI kc_4 1 (by decide) rfl rfl kw_2_58 dX11_keep_17 g3 ?_
    refine J_if_ne (tgt := 29) dX11_keep_20 rfl ?_ ?_
    · refine J_aload_n 0 dX11_keep_29 rv_is rfl ?_
      refine J_G (fun g4 => ?_)
      refine J_getI kc_11 14 (by decide) rfl rfl kw_3_56 dX11_keep_30 g4 ?_
      refine J_bipush (v := nI 8) dX11_keep_33 rfl ?_
      refine J_icmp_ne (tgt := 44) dX11_keep_35 rfl ?_ ?_
      · refine J_aload_n 0 dX11_keep_44 rv_is rfl ?_
        refine J_G (fun g5 => ?_)
        refine J_getR kc_11 7 (by decide) rfl rfl kw_3_49 dX11_keep_45 g5 ?_
        refine J_aload_n 0 dX11_keep_48 rv_is rfl ?_
        refine J_getI kc_11 14 (by decide) rfl rfl kw_3_56 dX11_keep_49 g5 ?_
        refine J_G (fun g6 => ?_)
        refine J_G (fun g7 => ?_)
        refine J_aald (t := 21) (t0 := 5) (Cn := RX4) (by decide) (by decide) (fun _ => rfl) dX11_keep_52 g6 g7 ?_
        refine J_aload_n 0 dX11_keep_53 rv_is rfl ?_
        refine J_getR kc_11 3 (by decide) rfl rfl kw_3_45 dX11_keep_54 g5 ?_
        refine J_G (fun g8 => ?_)
        refine J.callV (n := 1) (As := [rv (zx x) (xR h a0 3)]) kc_4 (ctX4_take (lx x) (wx x) (xR h (xR h a0 7) (xI h a0 14).toNatClampNeg) (xR h a0 3) h) kw_5_160 kw_5_208 kw_5_158 kw_5_159 kw_1_6 (by decide +kernel) rfl (by decide) (Nat.zero_le _) rfl dX11_keep_57 g8 (fun _ h9 => ?_)
        show J x _ _ 60 _ [] h9 _
        refine J_aload_n 0 dX11_keep_60 rv_is rfl ?_
        refine J_dup dX11_keep_61 rv_cat ?_
        refine J_G (fun g10 => ?_)
        refine J_getI kc_11 14 (by decide) rfl rfl kw_3_56 dX11_keep_62 g10 ?_
        refine J_iconst (v := nI 1) dX11_keep_65 rfl ?_
        refine J_iadd dX11_keep_66 ?_
        refine J_putI kc_11 14 (by decide) rfl rfl rfl rfl (Or.inl rfl) kw_3_56 dX11_keep_67 g10 ?_
        refine J_LTh (fun h11 => ?_)
        refine J_aload_n 0 dX11_keep_70 rv_is rfl ?_
        refine J_aload_n 0 dX11_keep_71 rv_is rfl ?_
        refine J_G (fun g12 => ?_)
        refine J_getI kc_11 14 (by decide) rfl rfl kw_3_56 dX11_keep_72 g12 ?_
        refine J.callV (n := 1) (As := [.int (xI h11 a0 14)]) kc_11 (ctX11_grant (lx x) (wx x) a0 (xI h11 a0 14) h11) kw_4_65 kw_4_62 kw_4_64 kp_1 kw_1_1 (by decide +kernel) rfl (by decide) (Nat.zero_le _) rfl dX11_keep_75 g12 (fun v14 h13 => ?_)
        show J x _ _ 78 _ [.int v14] h13 _
        exact J_iret dX11_keep_78
      · refine J_aload_n 0 dX11_keep_38 rv_is rfl ?_
        refine J_iconst (v := nI 3) dX11_keep_39 rfl ?_
        refine J_G (fun g15 => ?_)
        refine J.callV (n := 1) (As := [.int (nI 3)]) kc_11 (ctX11_refuse (lx x) (wx x) a0 (nI 3) h) kw_3_112 kw_3_109 kw_3_111 kp_0 kw_1_1 (by decide +kernel) rfl (by decide) (Nat.zero_le _) rfl dX11_keep_40 g15 (fun v17 h16 => ?_)
        show J x _ _ 43 _ [.int v17] h16 _
        exact J_iret dX11_keep_43
    · refine J_aload_n 0 dX11_keep_23 rv_is rfl ?_
      refine J_iconst (v := nI 5) dX11_keep_24 rfl ?_
      refine J_G (fun g18 => ?_)
      refine J.callV (n := 1) (As := [.int (nI 5)]) kc_11 (ctX11_refuse (lx x) (wx x) a0 (nI 5) h) kw_3_112 kw_3_109 kw_3_111 kp_0 kw_1_1 (by decide +kernel) rfl (by decide) (Nat.zero_le _) rfl dX11_keep_25 g18 (fun v20 h19 => ?_)
      show J x _ _ 28 _ [.int v20] h19 _
      exact J_iret dX11_keep_28
  · refine J_aload_n 0 dX11_keep_7 rv_is rfl ?_
    refine J_iconst (v := nI 1) dX11_keep_8 rfl ?_
    refine J_G (fun g21 => ?_)
    refine J.callV (n := 1) (As := [.int (nI 1)]) kc_11 (ctX11_refuse (lx x) (wx x) a0 (nI 1) h) kw_3_112 kw_3_109 kw_3_111 kp_0 kw_1_1 (by decide +kernel) rfl (by decide) (Nat.zero_le _) rfl dX11_keep_9 g21 (fun v23 h22 => ?_)
    show J x _ _ 12 _ [.int v23] h22 _
    exact J_iret dX11_keep_12
theorem ctX11_keep (l : Launch) (w : WT) (a0 : Nat) (h : AH) : CM l w yX11_keep cX11_keep 1 (some .int) 2 43 KI [rv (w.1) a0] h (X11_keep_f a0 h) :=
  CM.of (by decide +kernel) (by simp [lg_sl, rv_cat, cat_I, cat_L, cat_S]) (lv := [(0, rv (w.1) a0)]) (by simp [lv_args, rv_cat, cat_I, cat_L, cat_S]) (fun x hx => by subst hx; exact jX11_keep x a0 h)
-- FallTrials.areMends(I)Z
abbrev qX11_areMends : MT := (cX11_areMends, RX11, "areMends", (some .boolean), 0, 0, 2)
def X11_areMends_f (a0 : Nat) (i1 : Int32) (h : AH) : Option (Int32 × AH) :=
  if i1 < 0 then (
    some (nI 0, h)
  ) else (
    G (xc h a0 = 11) <|
    G (xc h (xR h a0 6) = 4) <|
    if ((nI 1) <<< ((xI h (xR h a0 6) 1) &&& 31)) ≤ i1 then (
      some (nI 0, h)
    ) else (
      some (nI 1, h)
    )
  )
theorem jX11_areMends (x : CT) (a0 : Nat) (i1 : Int32) (h : AH) : J x qX11_areMends ZI 0 [(0, rv (zx x) a0), (1, .int i1)] [] h (X11_areMends_f a0 i1 h) := by
  unfold X11_areMends_f
  refine J_iload_n 1 dX11_areMends_0 rfl ?_
  refine J_if_lt (tgt := 21) dX11_areMends_1 rfl ?_ ?_
  · refine J_iconst (v := nI 0) dX11_areMends_21 rfl ?_
    exact J_zret dX11_areMends_22 (by decide)
  · refine J_iload_n 1 dX11_areMends_4 rfl ?_
    refine J_iconst (v := nI 1) dX11_areMends_5 rfl ?_
    refine J_aload_n 0 dX11_areMends_6 rv_is rfl ?_
    refine J_G (fun g1 => ?_)
    refine J_getR kc_11 6 (by decide) rfl rfl kw_3_48 dX11_areMends_7 g1 ?_
    refine J_G (fun g2 => ?_)
    refine J_getI kc_4 1 (by decide) rfl rfl kw_2_58 dX11_areMends_10 g2 ?_
    refine J_ishl dX11_areMends_13 ?_
    refine J_icmp_ge (tgt := 21) dX11_areMends_14 rfl ?_ ?_
    · refine J_iconst (v := nI 0) dX11_areMends_21 rfl ?_
      exact J_zret dX11_areMends_22 (by decide)
    · refine J_iconst (v := nI 1) dX11_areMends_17 rfl ?_
      refine J_goto (tgt := 22) dX11_areMends_18 rfl ?_
      exact J_zret dX11_areMends_22 (by decide)
theorem ctX11_areMends (l : Launch) (w : WT) (a0 : Nat) (i1 : Int32) (h : AH) : CM l w yX11_areMends cX11_areMends 2 (some .boolean) 0 0 KI [rv (w.1) a0, .int i1] h (X11_areMends_f a0 i1 h) :=
  CM.of (by decide +kernel) (by simp [lg_sl, rv_cat, cat_I, cat_L, cat_S]) (lv := [(0, rv (w.1) a0), (1, .int i1)]) (by simp [lv_args, rv_cat, cat_I, cat_L, cat_S]) (fun x hx => by subst hx; exact jX11_areMends x a0 i1 h)
