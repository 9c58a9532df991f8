-- FallTrials.trial(I)I
abbrev qX11_trial : MT := (cX11_trial, RX11, "trial", (some .int), 7, 185, 2)
def X11_trial_B24 (a0 : Nat) (h : AH) : Option (Int32 × AH) :=
  G (xc h a0 = 11) <|
  BN (X11_refuse_f a0 (nI 2) h) fun v3 h2 =>
  some (v3, h2)
theorem jX11_trial_B24 (x : CT) (a0 : Nat) (h : AH) : J x qX11_trial ZI 24 [(0, rv (zx x) a0)] [] h (X11_trial_B24 a0 h) := by
  unfold X11_trial_B24
  refine J_aload_n 0 dX11_trial_24 rv_is rfl ?_
  refine J_iconst (v := nI 2) dX11_trial_25 rfl ?_
  refine J_G (fun g1 => ?_)
  refine J.callV (n := 1) (As := [.int (nI 2)]) kc_11 (ctX11_refuse (lx x) (wx x) a0 (nI 2) h) kw_3_112 kw_3_109 kw_3_111 kp_0 kw_1_1 (by decide +kernel) rfl (by decide) (Nat.zero_le _) rfl dX11_trial_26 g1 (fun v3 h2 => ?_)
  show J x _ _ 29 _ [.int v3] h2 _
  exact J_iret dX11_trial_29
def X11_trial_B76 (a0 : Nat) (h : AH) : Option (Int32 × AH) :=
  G (xc h a0 = 11) <|
  BN (X11_refuse_f a0 (nI 5) h) fun v3 h2 =>
  some (v3, h2)
theorem jX11_trial_B76 (x : CT) (a0 : Nat) (h : AH) : J x qX11_trial ZI 76 [(0, rv (zx x) a0)] [] h (X11_trial_B76 a0 h) := by
  unfold X11_trial_B76
  refine J_aload_n 0 dX11_trial_76 rv_is rfl ?_
  refine J_iconst (v := nI 5) dX11_trial_77 rfl ?_
  refine J_G (fun g1 => ?_)
  refine J.callV (n := 1) (As := [.int (nI 5)]) kc_11 (ctX11_refuse (lx x) (wx x) a0 (nI 5) h) kw_3_112 kw_3_109 kw_3_111 kp_0 kw_1_1 (by decide +kernel) rfl (by decide) (Nat.zero_le _) rfl dX11_trial_78 g1 (fun v3 h2 => ?_)
  show J x _ _ 81 _ [.int v3] h2 _
  exact J_iret dX11_trial_81
def X11_trial_f (a0 : Nat) (i1 : Int32) (h : AH) : Option (Int32 × AH) :=
  G (xc h a0 = 11) <|
  if (xI h a0 13) = 0 then (
    G (xc h a0 = 11) <|
    BN (X11_refuse_f a0 (nI 1) h) fun v21 h20 =>
    some (v21, h20)
  ) else (
    if i1 < (nI 1) then (
      X11_trial_B24 a0 h
    ) else (
      if i1 ≤ (nI 100) then (
        G (xc h a0 = 11) <|
        G (xc h (xR h a0 8) = 9) <|
        BN (X9_play_f (xR h a0 8) (xR h a0 1) (xR h a0 4) (xR h a0 10) h) fun _ h4 =>
        G (xc h4 a0 = 11) <|
        G (xc h4 (xR h4 a0 10) = 8) <|
        if (xI h4 (xR h4 a0 10) 6) = 0 then (
          G (xc h4 a0 = 11) <|
          G (xc h4 (xR h4 a0 8) = 9) <|
          G (xc h4 (xR h4 (xR h4 a0 8) 0) = 5) <|
          BN (X5_isTooMuch_f (xR h4 (xR h4 a0 8) 0) (xR h4 a0 1) h4) fun v11 h10 =>
          if v11 = 0 then (
            G (xc h10 a0 = 11) <|
            G (xc h10 (xR h10 a0 8) = 9) <|
            BN (X9_search_f (xR h10 a0 8) (xR h10 a0 1) i1 h10) fun v15 h14 =>
            G (xc h14 a0 = 11) <|
            BN (X11_grant_f a0 v15 h14) fun v18 h17 =>
            some (v18, h17)
          ) else (
            X11_trial_B76 a0 h10
          )
        ) else (
          X11_trial_B76 a0 h4
        )
      ) else (
        X11_trial_B24 a0 h
      )
    )
  )
theorem jX11_trial (x : CT) (a0 : Nat) (i1 : Int32) (h : AH) : J x qX11_trial ZI 0 [(0, rv (zx x) a0), (1, .int i1)] [] h (X11_trial_f a0 i1 h) := by
  unfold X11_trial_f
  refine J_aload_n 0 dX11_trial_0 rv_is rfl ?_
  refine J_G (fun g1 => ?_)
  refine J_getI kc_11 13 (by decide) rfl rfl kw_3_55 dX11_trial_1 g1 ?_
  refine J_if_ne (tgt := 13) dX11_trial_4 rfl ?_ ?_
  · refine J_iload_n 1 dX11_trial_13 rfl ?_
    refine J_iconst (v := nI 1) dX11_trial_14 rfl ?_
    refine J_icmp_lt (tgt := 24) dX11_trial_15 rfl ?_ ?_
    · exact J_sub [0] rfl (jX11_trial_B24 x a0 h)
    · refine J_iload_n 1 dX11_trial_18 rfl ?_
      refine J_bipush (v := nI 100) dX11_trial_19 rfl ?_
      refine J_icmp_le (tgt := 30) dX11_trial_21 rfl ?_ ?_
      · refine J_aload_n 0 dX11_trial_30 rv_is rfl ?_
        refine J_G (fun g2 => ?_)
        refine J_getR kc_11 8 (by decide) rfl rfl kw_3_50 dX11_trial_31 g2 ?_
        refine J_aload_n 0 dX11_trial_34 rv_is rfl ?_
        refine J_getR kc_11 1 (by decide) rfl rfl kw_3_43 dX11_trial_35 g2 ?_
        refine J_aload_n 0 dX11_trial_38 rv_is rfl ?_
        refine J_getR kc_11 4 (by decide) rfl rfl kw_3_46 dX11_trial_39 g2 ?_
        refine J_aload_n 0 dX11_trial_42 rv_is rfl ?_
        refine J_getR kc_11 10 (by decide) rfl rfl kw_3_52 dX11_trial_43 g2 ?_
        refine J_G (fun g3 => ?_)
        refine J.callV (n := 3) (As := [rv (zx x) (xR h a0 1), rv (zx x) (xR h a0 4), rv (zx x) (xR h a0 10)]) kc_9 (ctX9_play (lx x) (wx x) (xR h a0 8) (xR h a0 1) (xR h a0 4) (xR h a0 10) h) kw_4_116 kw_4_113 kw_4_114 kw_4_115 kw_1_7 (by decide +kernel) rfl (by decide) (Nat.zero_le _) rfl dX11_trial_46 g3 (fun _ h4 => ?_)
        show J x _ _ 49 _ [] h4 _
        refine J_aload_n 0 dX11_trial_49 rv_is rfl ?_
        refine J_G (fun g5 => ?_)
        refine J_getR kc_11 10 (by decide) rfl rfl kw_3_52 dX11_trial_50 g5 ?_
        refine J_G (fun g6 => ?_)
        refine J_getI kc_8 6 (by decide) rfl rfl kw_2_152 dX11_trial_53 g6 ?_
        refine J_if_ne (tgt := 76) dX11_trial_56 rfl ?_ ?_
        · exact J_sub [0] rfl (jX11_trial_B76 x a0 h4)
        · refine J_aload_n 0 dX11_trial_59 rv_is rfl ?_
          refine J_G (fun g7 => ?_)
          refine J_getR kc_11 8 (by decide) rfl rfl kw_3_50 dX11_trial_60 g7 ?_
          refine J_G (fun g8 => ?_)
          refine J_getR kc_9 0 (by decide) rfl rfl kw_2_234 dX11_trial_63 g8 ?_
          refine J_aload_n 0 dX11_trial_66 rv_is rfl ?_
          refine J_getR kc_11 1 (by decide) rfl rfl kw_3_43 dX11_trial_67 g7 ?_
          refine J_G (fun g9 => ?_)
          refine J.callV (n := 1) (As := [rv (zx x) (xR h4 a0 1)]) kc_5 (ctX5_isTooMuch (lx x) (wx x) (xR h4 (xR h4 a0 8) 0) (xR h4 a0 1) h4) kw_5_101 kw_5_98 kw_5_99 kw_5_100 kw_1_8 (by decide +kernel) rfl (by decide) (Nat.zero_le _) rfl dX11_trial_70 g9 (fun v11 h10 => ?_)
          show J x _ _ 73 _ [.int v11] h10 _
          refine J_if_eq (tgt := 82) dX11_trial_73 rfl ?_ ?_
          · refine J_aload_n 0 dX11_trial_82 rv_is rfl ?_
            refine J_aload_n 0 dX11_trial_83 rv_is rfl ?_
            refine J_G (fun g12 => ?_)
            refine J_getR kc_11 8 (by decide) rfl rfl kw_3_50 dX11_trial_84 g12 ?_
            refine J_aload_n 0 dX11_trial_87 rv_is rfl ?_
            refine J_getR kc_11 1 (by decide) rfl rfl kw_3_43 dX11_trial_88 g12 ?_
            refine J_iload_n 1 dX11_trial_91 rfl ?_
            refine J_G (fun g13 => ?_)
            refine J.callV (n := 2) (As := [rv (zx x) (xR h10 a0 1), .int i1]) kc_9 (ctX9_search (lx x) (wx x) (xR h10 a0 8) (xR h10 a0 1) i1 h10) kw_5_115 kw_5_112 kw_5_113 kw_5_114 kw_1_7 (by decide +kernel) rfl (by decide) (by simp [rv_cat, cat_I, cat_L, cat_S]) rfl dX11_trial_92 g13 (fun v15 h14 => ?_)
            show J x _ _ 95 _ [.int v15, rv (zx x) a0] h14 _
            refine J_G (fun g16 => ?_)
            refine J.callV (n := 1) (As := [.int v15]) kc_11 (ctX11_grant (lx x) (wx x) a0 v15 h14) kw_4_65 kw_4_62 kw_4_64 kp_1 kw_1_1 (by decide +kernel) rfl (by decide) (Nat.zero_le _) rfl dX11_trial_95 g16 (fun v18 h17 => ?_)
            show J x _ _ 98 _ [.int v18] h17 _
            exact J_iret dX11_trial_98
          · exact J_sub [0] rfl (jX11_trial_B76 x a0 h10)
      · exact J_sub [0] rfl (jX11_trial_B24 x a0 h)
  · refine J_aload_n 0 dX11_trial_7 rv_is rfl ?_
    refine J_iconst (v := nI 1) dX11_trial_8 rfl ?_
    refine J_G (fun g19 => ?_)
    refine J.callV (n := 1) (As := [.int (nI 1)]) kc_11 (ctX11_refuse (lx x) (wx x) a0 (nI 1) h) kw_3_112 kw_3_109 kw_3_111 kp_0 kw_1_1 (by decide +kernel) rfl (by decide) (Nat.zero_le _) rfl dX11_trial_9 g19 (fun v21 h20 => ?_)
    show J x _ _ 12 _ [.int v21] h20 _
    exact J_iret dX11_trial_12
theorem ctX11_trial (l : Launch) (w : WT) (a0 : Nat) (i1 : Int32) (h : AH) : CM l w yX11_trial cX11_trial 2 (some .int) 7 185 KI [rv (w.1) a0, .int i1] h (X11_trial_f a0 i1 h) :=
  CM.of (by decide +kernel) (by simp [lg_sl, rv_cat, cat_I, cat_L, cat_S]) (lv := [(0, rv (w.1) a0), (1, .int i1)]) (by simp [lv_args, rv_cat, cat_I, cat_L, cat_S]) (fun x hx => by subst hx; exact jX11_trial x a0 i1 h)
-- FallTrials.thin()I
abbrev qX11_thin : MT := (cX11_thin, RX11, "thin", (some .int), 7, 183, 2)
def X11_thin_f (a0 : Nat) (h : AH) : Option (Int32 × AH) :=
  G (xc h a0 = 11) <|
  if (xI h a0 13) = 0 then (
    G (xc h a0 = 11) <|
    BN (X11_refuse_f a0 (nI 1) h) fun v25 h24 =>
    some (v25, h24)
  ) else (
    G (xc h a0 = 11) <|
    G (xc h (xR h a0 8) = 9) <|
    G (xc h (xR h (xR h a0 8) 0) = 5) <|
    BN (X5_isTooMuch_f (xR h (xR h a0 8) 0) (xR h a0 1) h) fun v6 h5 =>
    if v6 = 0 then (
      G (xc h5 a0 = 11) <|
      G (xc h5 (xR h5 a0 2) = 10) <|
      BN (X10_copy_f (xR h5 a0 2) (xR h5 a0 1) h5) fun _ h9 =>
      G (xc h9 a0 = 11) <|
      G (xc h9 (xR h9 a0 8) = 9) <|
      BN (X9_thinnest_f (xR h9 a0 8) (xR h9 a0 2) h9) fun v13 h12 =>
      if v13 = (-1) then (
        G (xc h12 a0 = 11) <|
        BN (X11_refuse_f a0 (nI 6) h12) fun v19 h18 =>
        some (v19, h18)
      ) else (
        G (xc h12 a0 = 11) <|
        BN (X11_grant_f a0 v13 h12) fun v16 h15 =>
        some (v16, h15)
      )
    ) else (
      G (xc h5 a0 = 11) <|
      BN (X11_refuse_f a0 (nI 5) h5) fun v22 h21 =>
      some (v22, h21)
    )
  )
theorem jX11_thin (x : CT) (a0 : Nat) (h : AH) : J x qX11_thin ZI 0 [(0, rv (zx x) a0)] [] h (X11_thin_f a0 h) := by
  unfold X11_thin_f
  refine J_aload_n 0 dX11_thin_0 rv_is rfl ?_
  refine J_G (fun g1 => ?_)
  refine J_getI kc_11 13 (by decide) rfl rfl kw_3_55 dX11_thin_1 g1 ?_
  refine J_if_ne (tgt := 13) dX11_thin_4 rfl ?_ ?_
  · refine J_aload_n 0 dX11_thin_13 rv_is rfl ?_
    refine J_G (fun g2 => ?_)
    refine J_getR kc_11 8 (by decide) rfl rfl kw_3_50 dX11_thin_14 g2 ?_
    refine J_G (fun g3 => ?_)
    refine J_getR kc_9 0 (by decide) rfl rfl kw_2_234 dX11_thin_17 g3 ?_
    refine J_aload_n 0 dX11_thin_20 rv_is rfl ?_
    refine J_getR kc_11 1 (by decide) rfl rfl kw_3_43 dX11_thin_21 g2 ?_
    refine J_G (fun g4 => ?_)
    refine J.callV (n := 1) (As := [rv (zx x) (xR h a0 1)]) kc_5 (ctX5_isTooMuch (lx x) (wx x) (xR h (xR h a0 8) 0) (xR h a0 1) h) kw_5_101 kw_5_98 kw_5_99 kw_5_100 kw_1_8 (by decide +kernel) rfl (by decide) (Nat.zero_le _) rfl dX11_thin_24 g4 (fun v6 h5 => ?_)
    show J x _ _ 27 _ [.int v6] h5 _
    refine J_if_eq (tgt := 36) dX11_thin_27 rfl ?_ ?_
    · refine J_aload_n 0 dX11_thin_36 rv_is rfl ?_
      refine J_G (fun g7 => ?_)
      refine J_getR kc_11 2 (by decide) rfl rfl kw_3_44 dX11_thin_37 g7 ?_
      refine J_aload_n 0 dX11_thin_40 rv_is rfl ?_
      refine J_getR kc_11 1 (by decide) rfl rfl kw_3_43 dX11_thin_41 g7 ?_
      refine J_G (fun g8 => ?_)
      refine J.callV (n := 1) (As := [rv (zx x) (xR h5 a0 1)]) kc_10 (ctX10_copy (lx x) (wx x) (xR h5 a0 2) (xR h5 a0 1) h5) kw_5_228 kw_5_225 kw_5_226 kw_5_227 kw_1_5 (by decide +kernel) rfl (by decide) (Nat.zero_le _) rfl dX11_thin_44 g8 (fun _ h9 => ?_)
      show J x _ _ 47 _ [] h9 _
      refine J_aload_n 0 dX11_thin_47 rv_is rfl ?_
      refine J_G (fun g10 => ?_)
      refine J_getR kc_11 8 (by decide) rfl rfl kw_3_50 dX11_thin_48 g10 ?_
      refine J_aload_n 0 dX11_thin_51 rv_is rfl ?_
      refine J_getR kc_11 2 (by decide) rfl rfl kw_3_44 dX11_thin_52 g10 ?_
      refine J_G (fun g11 => ?_)
      refine J.callV (n := 1) (As := [rv (zx x) (xR h9 a0 2)]) kc_9 (ctX9_thinnest (lx x) (wx x) (xR h9 a0 8) (xR h9 a0 2) h9) kw_5_232 kw_5_229 kw_5_230 kw_5_231 kw_1_7 (by decide +kernel) rfl (by decide) (Nat.zero_le _) rfl dX11_thin_55 g11 (fun v13 h12 => ?_)
      show J x _ _ 58 _ [.int v13] h12 _
      refine J_istore_n dX11_thin_58 (by decide) (SD.c (lvr := [(0, rv (zx x) a0)]) [0] rfl rfl 0 rfl rfl rv_cat) ?_
      refine J_iload_n 0 dX11_thin_59 rfl ?_
      refine J_iconst (v := (-1)) dX11_thin_60 rfl ?_
      refine J_icmp_ne (tgt := 73) dX11_thin_61 rfl ?_ ?_
      · refine J_aload_n 1 dX11_thin_73 rv_is rfl ?_
        refine J_iload_n 0 dX11_thin_74 rfl ?_
        refine J_G (fun g14 => ?_)
        refine J.callV (n := 1) (As := [.int v13]) kc_11 (ctX11_grant (lx x) (wx x) a0 v13 h12) kw_4_65 kw_4_62 kw_4_64 kp_1 kw_1_1 (by decide +kernel) rfl (by decide) (Nat.zero_le _) rfl dX11_thin_75 g14 (fun v16 h15 => ?_)
        show J x _ _ 78 _ [.int v16] h15 _
        exact J_iret dX11_thin_78
      · refine J_aload_n 1 dX11_thin_64 rv_is rfl ?_
        refine J_bipush (v := nI 6) dX11_thin_65 rfl ?_
        refine J_G (fun g17 => ?_)
        refine J.callV (n := 1) (As := [.int (nI 6)]) kc_11 (ctX11_refuse (lx x) (wx x) a0 (nI 6) h12) kw_3_112 kw_3_109 kw_3_111 kp_0 kw_1_1 (by decide +kernel) rfl (by decide) (Nat.zero_le _) rfl dX11_thin_67 g17 (fun v19 h18 => ?_)
        show J x _ _ 70 _ [.int v19] h18 _
        refine J_goto (tgt := 78) dX11_thin_70 rfl ?_
        exact J_iret dX11_thin_78
    · refine J_aload_n 0 dX11_thin_30 rv_is rfl ?_
      refine J_iconst (v := nI 5) dX11_thin_31 rfl ?_
      refine J_G (fun g20 => ?_)
      refine J.callV (n := 1) (As := [.int (nI 5)]) kc_11 (ctX11_refuse (lx x) (wx x) a0 (nI 5) h5) kw_3_112 kw_3_109 kw_3_111 kp_0 kw_1_1 (by decide +kernel) rfl (by decide) (Nat.zero_le _) rfl dX11_thin_32 g20 (fun v22 h21 => ?_)
      show J x _ _ 35 _ [.int v22] h21 _
      exact J_iret dX11_thin_35
  · refine J_aload_n 0 dX11_thin_7 rv_is rfl ?_
    refine J_iconst (v := nI 1) dX11_thin_8 rfl ?_
    refine J_G (fun g23 => ?_)
    refine J.callV (n := 1) (As := [.int (nI 1)]) kc_11 (ctX11_refuse (lx x) (wx x) a0 (nI 1) h) kw_3_112 kw_3_109 kw_3_111 kp_0 kw_1_1 (by decide +kernel) rfl (by decide) (Nat.zero_le _) rfl dX11_thin_9 g23 (fun v25 h24 => ?_)
    show J x _ _ 12 _ [.int v25] h24 _
    exact J_iret dX11_thin_12
theorem ctX11_thin (l : Launch) (w : WT) (a0 : Nat) (h : AH) : CM l w yX11_thin cX11_thin 2 (some .int) 7 183 KI [rv (w.1) a0] h (X11_thin_f a0 h) :=
  CM.of (by decide +kernel) (by simp [lg_sl, rv_cat, cat_I, cat_L, cat_S]) (lv := [(0, rv (w.1) a0)]) (by simp [lv_args, rv_cat, cat_I, cat_L, cat_S]) (fun x hx => by subst hx; exact jX11_thin x a0 h)
-- FallTrialsModel.run()I
abbrev qX15_run : MT := (cX15_run, RX15, "run", (some .int), 6, 143, 1)
def X15_run_f (a0 : Nat) (h : AH) : Option (Int32 × AH) :=
  G (xc h a0 = 15) <|
  LT (pI h a0 0 (nI 0)) fun h2 =>
  G (xc h2 a0 = 15) <|
  if (xR h2 a0 4) = 0 then (
    G (xc h2 a0 = 15) <|
    BN (X15_refused_f a0 (nI 1) h2) fun v12 h11 =>
    some (v12, h11)
  ) else (
    G (xc h2 a0 = 15) <|
    BN (X15_runs_f a0 (nI 0) (xR h2 a0 20) (nI 0) (xI h2 a0 16) h2) fun v6 h5 =>
    G (xc h5 a0 = 15) <|
    BN (X15_done_f a0 v6 h5) fun v9 h8 =>
    some (v9, h8)
  )
theorem jX15_run (x : CT) (a0 : Nat) (h : AH) : J x qX15_run ZI 0 [(0, rv (zx x) a0)] [] h (X15_run_f a0 h) := by
  unfold X15_run_f
  refine J_aload_n 0 dX15_run_0 rv_is rfl ?_
  refine J_iconst (v := nI 0) dX15_run_1 rfl ?_
  refine J_G (fun g1 => ?_)
  refine J_putI kc_15 0 (by decide) rfl rfl rfl rfl (Or.inl rfl) kw_6_210 dX15_run_2 g1 ?_
  refine J_LTh (fun h2 => ?_)
  refine J_aload_n 0 dX15_run_5 rv_is rfl ?_
  refine J_G (fun g3 => ?_)
  refine J_getR kc_15 4 (by decide) rfl rfl kw_6_214 dX15_run_6 g3 ?_
  refine J_ifnonnull (tgt := 20) dX15_run_9 rfl ?_ ?_
  · refine J_aload_n 0 dX15_run_20 rv_is rfl ?_
    refine J_aload_n 0 dX15_run_21 rv_is rfl ?_
    refine J_iconst (v := nI 0) dX15_run_22 rfl ?_
    refine J_aload_n 0 dX15_run_23 rv_is rfl ?_
    refine J_G (fun g4 => ?_)
    refine J_getR kc_15 20 (by decide) rfl rfl kw_6_230 dX15_run_24 g4 ?_
    refine J_iconst (v := nI 0) dX15_run_27 rfl ?_
    refine J_aload_n 0 dX15_run_28 rv_is rfl ?_
    refine J_getI kc_15 16 (by decide) rfl rfl kw_6_226 dX15_run_29 g4 ?_
    refine J.callV (n := 4) (As := [.int (nI 0), rv (zx x) (xR h2 a0 20), .int (nI 0), .int (xI h2 a0 16)]) kc_15 (ctX15_runs (lx x) (wx x) a0 (nI 0) (xR h2 a0 20) (nI 0) (xI h2 a0 16) h2) kw_8_154 kw_8_151 kw_8_153 kp_29 kw_1_13 (by decide +kernel) rfl (by decide) (by simp [rv_cat, cat_I, cat_L, cat_S]) rfl dX15_run_32 g4 (fun v6 h5 => ?_)
    show J x _ _ 35 _ [.int v6, rv (zx x) a0] h5 _
    refine J_G (fun g7 => ?_)
    refine J.callV (n := 1) (As := [.int v6]) kc_15 (ctX15_done (lx x) (wx x) a0 v6 h5) kw_8_103 kw_8_100 kw_8_102 kp_24 kw_1_13 (by decide +kernel) rfl (by decide) (Nat.zero_le _) rfl dX15_run_35 g7 (fun v9 h8 => ?_)
    show J x _ _ 38 _ [.int v9] h8 _
    exact J_iret dX15_run_38
  · refine J_aload_n 0 dX15_run_12 rv_is rfl ?_
    refine J_iconst (v := nI 1) dX15_run_13 rfl ?_
    refine J_G (fun g10 => ?_)
    refine J.callV (n := 1) (As := [.int (nI 1)]) kc_15 (ctX15_refused (lx x) (wx x) a0 (nI 1) h2) kw_7_139 kw_7_136 kw_7_138 kp_8 kw_1_13 (by decide +kernel) rfl (by decide) (Nat.zero_le _) rfl dX15_run_14 g10 (fun v12 h11 => ?_)
    show J x _ _ 17 _ [.int v12] h11 _
    refine J_goto (tgt := 38) dX15_run_17 rfl ?_
    exact J_iret dX15_run_38
theorem ctX15_run (l : Launch) (w : WT) (a0 : Nat) (h : AH) : CM l w yX15_run cX15_run 1 (some .int) 6 143 KI [rv (w.1) a0] h (X15_run_f a0 h) :=
  CM.of (by decide +kernel) (by simp [lg_sl, rv_cat, cat_I, cat_L, cat_S]) (lv := [(0, rv (w.1) a0)]) (by simp [lv_args, rv_cat, cat_I, cat_L, cat_S]) (fun x hx => by subst hx; exact jX15_run x a0 h)
-- FallTrialsModel.fit(I)I
abbrev qX15_fit : MT := (cX15_fit, RX15, "fit", (some .int), 7, 169, 2)
def X15_fit_B32 (a0 : Nat) (h : AH) : Option (Int32 × AH) :=
  G (xc h a0 = 15) <|
  BN (X15_refused_f a0 (nI 2) h) fun v3 h2 =>
  some (v3, h2)
theorem jX15_fit_B32 (x : CT) (a0 : Nat) (h : AH) : J x qX15_fit ZI 32 [(0, rv (zx x) a0)] [] h (X15_fit_B32 a0 h) := by
  unfold X15_fit_B32
  refine J_aload_n 0 dX15_fit_32 rv_is rfl ?_
  refine J_iconst (v := nI 2) dX15_fit_33 rfl ?_
  refine J_G (fun g1 => ?_)
  refine J.callV (n := 1) (As := [.int (nI 2)]) kc_15 (ctX15_refused (lx x) (wx x) a0 (nI 2) h) kw_7_139 kw_7_136 kw_7_138 kp_8 kw_1_13 (by decide +kernel) rfl (by decide) (Nat.zero_le _) rfl dX15_fit_34 g1 (fun v3 h2 => ?_)
  show J x _ _ 37 _ [.int v3] h2 _
  exact J_iret dX15_fit_37
def X15_fit_B52 (is0 : Int32) (as1 : Nat) (h : AH) : Option (Int32 × AH) :=
  G (xc h as1 = 15) <|
  BN (X15_done_f as1 is0 h) fun v3 h2 =>
  some (v3, h2)
theorem jX15_fit_B52 (x : CT) (is0 : Int32) (as1 : Nat) (h : AH) : J x qX15_fit ZI 52 [] [.int is0, rv (zx x) as1] h (X15_fit_B52 is0 as1 h) := by
  unfold X15_fit_B52
  refine J_G (fun g1 => ?_)
  refine J.callV (n := 1) (As := [.int is0]) kc_15 (ctX15_done (lx x) (wx x) as1 is0 h) kw_8_103 kw_8_100 kw_8_102 kp_24 kw_1_13 (by decide +kernel) rfl (by decide) (Nat.zero_le _) rfl dX15_fit_52 g1 (fun v3 h2 => ?_)
  show J x _ _ 55 _ [.int v3] h2 _
  exact J_iret dX15_fit_55
def X15_fit_f (a0 : Nat) (i1 : Int32) (h : AH) : Option (Int32 × AH) :=
  G (xc h a0 = 15) <|
  LT (pI h a0 0 (nI 0)) fun h2 =>
  G (xc h2 a0 = 15) <|
  if (xR h2 a0 4) = 0 then (
    G (xc h2 a0 = 15) <|
    BN (X15_refused_f a0 (nI 1) h2) fun v10 h9 =>
    some (v10, h9)
  ) else (
    if i1 < 0 then (
      X15_fit_B32 a0 h2
    ) else (
      G (xc h2 a0 = 15) <|
      if i1 < ((nI 1) <<< ((xI h2 a0 17) &&& 31)) then (
        G (xc h2 a0 = 15) <|
        BN (X15_isFit_f a0 i1 h2) fun v7 h6 =>
        if v7 = 0 then (
          X15_fit_B52 (nI 0) a0 h6
        ) else (
          X15_fit_B52 (nI 1) a0 h6
        )
      ) else (
        X15_fit_B32 a0 h2
      )
    )
  )
theorem jX15_fit (x : CT) (a0 : Nat) (i1 : Int32) (h : AH) : J x qX15_fit ZI 0 [(0, rv (zx x) a0), (1, .int i1)] [] h (X15_fit_f a0 i1 h) := by
  unfold X15_fit_f
  refine J_aload_n 0 dX15_fit_0 rv_is rfl ?_
  refine J_iconst (v := nI 0) dX15_fit_1 rfl ?_
  refine J_G (fun g1 => ?_)
  refine J_putI kc_15 0 (by decide) rfl rfl rfl rfl (Or.inl rfl) kw_6_210 dX15_fit_2 g1 ?_
  refine J_LTh (fun h2 => ?_)
  refine J_aload_n 0 dX15_fit_5 rv_is rfl ?_
  refine J_G (fun g3 => ?_)
  refine J_getR kc_15 4 (by decide) rfl rfl kw_6_214 dX15_fit_6 g3 ?_
  refine J_ifnonnull (tgt := 18) dX15_fit_9 rfl ?_ ?_
  · refine J_iload_n 1 dX15_fit_18 rfl ?_
    refine J_if_lt (tgt := 32) dX15_fit_19 rfl ?_ ?_
    · exact J_sub [0] rfl (jX15_fit_B32 x a0 h2)
    · refine J_iload_n 1 dX15_fit_22 rfl ?_
      refine J_iconst (v := nI 1) dX15_fit_23 rfl ?_
      refine J_aload_n 0 dX15_fit_24 rv_is rfl ?_
      refine J_G (fun g4 => ?_)
      refine J_getI kc_15 17 (by decide) rfl rfl kw_6_227 dX15_fit_25 g4 ?_
      refine J_ishl dX15_fit_28 ?_
      refine J_icmp_lt (tgt := 38) dX15_fit_29 rfl ?_ ?_
      · refine J_aload_n 0 dX15_fit_38 rv_is rfl ?_
        refine J_aload_n 0 dX15_fit_39 rv_is rfl ?_
        refine J_iload_n 1 dX15_fit_40 rfl ?_
        refine J_G (fun g5 => ?_)
        refine J.callV (n := 1) (As := [.int i1]) kc_15 (ctX15_isFit (lx x) (wx x) a0 i1 h2) kw_9_139 kw_9_136 kw_9_138 kp_59 kw_1_13 (by decide +kernel) rfl (by decide) (by simp [rv_cat, cat_I, cat_L, cat_S]) rfl dX15_fit_41 g5 (fun v7 h6 => ?_)
        show J x _ _ 44 _ [.int v7, rv (zx x) a0] h6 _
        refine J_if_eq (tgt := 51) dX15_fit_44 rfl ?_ ?_
        · refine J_iconst (v := nI 0) dX15_fit_51 rfl ?_
          exact J_sub [] rfl (jX15_fit_B52 x (nI 0) a0 h6)
        · refine J_iconst (v := nI 1) dX15_fit_47 rfl ?_
          refine J_goto (tgt := 52) dX15_fit_48 rfl ?_
          exact J_sub [] rfl (jX15_fit_B52 x (nI 1) a0 h6)
      · exact J_sub [0] rfl (jX15_fit_B32 x a0 h2)
  · refine J_aload_n 0 dX15_fit_12 rv_is rfl ?_
    refine J_iconst (v := nI 1) dX15_fit_13 rfl ?_
    refine J_G (fun g8 => ?_)
    refine J.callV (n := 1) (As := [.int (nI 1)]) kc_15 (ctX15_refused (lx x) (wx x) a0 (nI 1) h2) kw_7_139 kw_7_136 kw_7_138 kp_8 kw_1_13 (by decide +kernel) rfl (by decide) (Nat.zero_le _) rfl dX15_fit_14 g8 (fun v10 h9 => ?_)
    show J x _ _ 17 _ [.int v10] h9 _
    exact J_iret dX15_fit_17
theorem ctX15_fit (l : Launch) (w : WT) (a0 : Nat) (i1 : Int32) (h : AH) : CM l w yX15_fit cX15_fit 2 (some .int) 7 169 KI [rv (w.1) a0, .int i1] h (X15_fit_f a0 i1 h) :=
  CM.of (by decide +kernel) (by simp [lg_sl, rv_cat, cat_I, cat_L, cat_S]) (lv := [(0, rv (w.1) a0), (1, .int i1)]) (by simp [lv_args, rv_cat, cat_I, cat_L, cat_S]) (fun x hx => by subst hx; exact jX15_fit x a0 i1 h)
