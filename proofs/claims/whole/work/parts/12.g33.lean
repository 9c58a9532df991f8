-- FallTrialsModel.least()I
abbrev qX15_least : MT := (cX15_least, RX15, "least", (some .int), 7, 169, 3)
def X15_least_B64 (a0 : Nat) (i1 : Int32) (h : AH) : Option (Int32 × AH) :=
  if i1 = (-1) then (
    G (xc h a0 = 15) <|
    BN (X15_refused_f a0 (nI 6) h) fun v6 h5 =>
    some (v6, h5)
  ) else (
    G (xc h a0 = 15) <|
    BN (X15_done_f a0 i1 h) fun v3 h2 =>
    some (v3, h2)
  )
theorem jX15_least_B64 (x : CT) (a0 : Nat) (i1 : Int32) (h : AH) : J x qX15_least ZI 64 [(0, rv (zx x) a0), (1, .int i1)] [] h (X15_least_B64 a0 i1 h) := by
  unfold X15_least_B64
  refine J_iload_n 1 dX15_least_64 rfl ?_
  refine J_iconst (v := (-1)) dX15_least_65 rfl ?_
  refine J_icmp_ne (tgt := 78) dX15_least_66 rfl ?_ ?_
  · refine J_aload_n 0 dX15_least_78 rv_is rfl ?_
    refine J_iload_n 1 dX15_least_79 rfl ?_
    refine J_G (fun g1 => ?_)
    refine J.callV (n := 1) (As := [.int i1]) kc_15 (ctX15_done (lx x) (wx x) a0 i1 h) kw_8_103 kw_8_100 kw_8_102 kp_24 kw_1_13 (by decide +kernel) rfl (by decide) (Nat.zero_le _) rfl dX15_least_80 g1 (fun v3 h2 => ?_)
    show J x _ _ 83 _ [.int v3] h2 _
    exact J_iret dX15_least_83
  · refine J_aload_n 0 dX15_least_69 rv_is rfl ?_
    refine J_bipush (v := nI 6) dX15_least_70 rfl ?_
    refine J_G (fun g4 => ?_)
    refine J.callV (n := 1) (As := [.int (nI 6)]) kc_15 (ctX15_refused (lx x) (wx x) a0 (nI 6) h) kw_7_139 kw_7_136 kw_7_138 kp_8 kw_1_13 (by decide +kernel) rfl (by decide) (Nat.zero_le _) rfl dX15_least_72 g4 (fun v6 h5 => ?_)
    show J x _ _ 75 _ [.int v6] h5 _
    refine J_goto (tgt := 83) dX15_least_75 rfl ?_
    exact J_iret dX15_least_83
def X15_least_B58 (k22 : (Nat → Int32 → Int32 → AH → Option (Int32 × AH))) (a0 : Nat) (i1 : Int32) (i2 : Int32) (h : AH) : Option (Int32 × AH) :=
  LT (i2 + nI 1) fun v1 =>
  k22 a0 i1 v1 h
theorem jX15_least_B58 (x : CT) (k22 : (Nat → Int32 → Int32 → AH → Option (Int32 × AH))) (hk22 : ∀ (a0 : Nat) (i1 : Int32) (i2 : Int32) (h : AH), J x qX15_least ZI 22 [(0, rv (zx x) a0), (1, .int i1), (2, .int i2)] [] h (k22 a0 i1 i2 h)) (a0 : Nat) (i1 : Int32) (i2 : Int32) (h : AH) : J x qX15_least ZI 58 [(0, rv (zx x) a0), (1, .int i1), (2, .int i2)] [] h (X15_least_B58 k22 a0 i1 i2 h) := by
  unfold X15_least_B58
  refine J_iincL (u := i2 + nI 1) 2 dX15_least_58 rfl rfl (by decide) (SD.a (lvr := [(0, rv (zx x) a0), (1, .int i1)]) [0, 1] rfl rfl) (fun v1 => ?_)
  refine J_goto (tgt := 22) dX15_least_61 rfl ?_
  exact J_sub [1, 2, 0] rfl (hk22 a0 i1 v1 h)
def X15_least_B48 (k22 : (Nat → Int32 → Int32 → AH → Option (Int32 × AH))) (a0 : Nat) (i1 : Int32) (i2 : Int32) (h : AH) : Option (Int32 × AH) :=
  G (xc h a0 = 15) <|
  BN (X15_isFit_f a0 i2 h) fun v3 h2 =>
  if v3 = 0 then (
    X15_least_B58 k22 a0 i1 i2 h2
  ) else (
    X15_least_B58 k22 a0 i2 i2 h2
  )
theorem jX15_least_B48 (x : CT) (k22 : (Nat → Int32 → Int32 → AH → Option (Int32 × AH))) (hk22 : ∀ (a0 : Nat) (i1 : Int32) (i2 : Int32) (h : AH), J x qX15_least ZI 22 [(0, rv (zx x) a0), (1, .int i1), (2, .int i2)] [] h (k22 a0 i1 i2 h)) (a0 : Nat) (i1 : Int32) (i2 : Int32) (h : AH) : J x qX15_least ZI 48 [(0, rv (zx x) a0), (1, .int i1), (2, .int i2)] [] h (X15_least_B48 k22 a0 i1 i2 h) := by
  unfold X15_least_B48
  refine J_aload_n 0 dX15_least_48 rv_is rfl ?_
  refine J_iload_n 2 dX15_least_49 rfl ?_
  refine J_G (fun g1 => ?_)
  refine J.callV (n := 1) (As := [.int i2]) kc_15 (ctX15_isFit (lx x) (wx x) a0 i2 h) kw_9_139 kw_9_136 kw_9_138 kp_59 kw_1_13 (by decide +kernel) rfl (by decide) (Nat.zero_le _) rfl dX15_least_50 g1 (fun v3 h2 => ?_)
  show J x _ _ 53 _ [.int v3] h2 _
  refine J_if_eq (tgt := 58) dX15_least_53 rfl ?_ ?_
  · exact (jX15_least_B58 x k22 hk22 a0 i1 i2 h2)
  · refine J_iload_n 2 dX15_least_56 rfl ?_
    refine J_istore_n dX15_least_57 (by decide) (SD.c (lvr := [(0, rv (zx x) a0), (2, .int i2)]) [0, 2] rfl rfl 0 rfl rfl rv_cat) ?_
    exact J_sub [1, 0, 2] rfl (jX15_least_B58 x k22 hk22 a0 i2 i2 h2)
def X15_least_B22 : Nat → Nat → Int32 → Int32 → AH → Option (Int32 × AH)
  | 0, _, _, _, _ => none
  | n + 1, a0, i1, i2, h =>
    G (xc h a0 = 15) <|
    if ((nI 1) <<< ((xI h a0 17) &&& 31)) ≤ i2 then (
      X15_least_B64 a0 i1 h
    ) else (
      if i1 = (-1) then (
        X15_least_B48 (X15_least_B22 n) a0 i1 i2 h
      ) else (
        BN (X15_bits_f i2 h) fun v3 h2 =>
        BN (X15_bits_f i1 h2) fun v5 h4 =>
        if v5 ≤ v3 then (
          X15_least_B58 (X15_least_B22 n) a0 i1 i2 h4
        ) else (
          X15_least_B48 (X15_least_B22 n) a0 i1 i2 h4
        )
      )
    )
theorem jX15_least_B22 (x : CT) : ∀ (n : Nat) (a0 : Nat) (i1 : Int32) (i2 : Int32) (h : AH), J x qX15_least ZI 22 [(0, rv (zx x) a0), (1, .int i1), (2, .int i2)] [] h (X15_least_B22 n a0 i1 i2 h) := by
  intro n
  induction n with
  | zero => intro a0 i1 i2 h; exact J_none
  | succ n ih =>
    intro a0 i1 i2 h
    unfold X15_least_B22
    refine J_iload_n 2 dX15_least_22 rfl ?_
    refine J_iconst (v := nI 1) dX15_least_23 rfl ?_
    refine J_aload_n 0 dX15_least_24 rv_is rfl ?_
    refine J_G (fun g1 => ?_)
    refine J_getI kc_15 17 (by decide) rfl rfl kw_6_227 dX15_least_25 g1 ?_
    refine J_ishl dX15_least_28 ?_
    refine J_icmp_ge (tgt := 64) dX15_least_29 rfl ?_ ?_
    · exact J_sub [0, 1] rfl (jX15_least_B64 x a0 i1 h)
    · refine J_iload_n 1 dX15_least_32 rfl ?_
      refine J_iconst (v := (-1)) dX15_least_33 rfl ?_
      refine J_icmp_eq (tgt := 48) dX15_least_34 rfl ?_ ?_
      · exact (jX15_least_B48 x (X15_least_B22 n) ih a0 i1 i2 h)
      · refine J_iload_n 2 dX15_least_37 rfl ?_
        refine J.callS (n := 1) (As := [.int i2]) (ctX15_bits (lx x) (wx x) i2 h) kw_9_150 kw_9_148 kw_9_149 kw_1_13 (by decide +kernel) rfl (by decide) (Nat.zero_le _) rfl dX15_least_38 (fun v3 h2 => ?_)
        show J x _ _ 41 _ [.int v3] h2 _
        refine J_iload_n 1 dX15_least_41 rfl ?_
        refine J.callS (n := 1) (As := [.int i1]) (ctX15_bits (lx x) (wx x) i1 h2) kw_9_150 kw_9_148 kw_9_149 kw_1_13 (by decide +kernel) rfl (by decide) (by simp [rv_cat, cat_I, cat_L, cat_S]) rfl dX15_least_42 (fun v5 h4 => ?_)
        show J x _ _ 45 _ [.int v5, .int v3] h4 _
        refine J_icmp_ge (tgt := 58) dX15_least_45 rfl ?_ ?_
        · exact (jX15_least_B58 x (X15_least_B22 n) ih a0 i1 i2 h4)
        · exact (jX15_least_B48 x (X15_least_B22 n) ih a0 i1 i2 h4)
def X15_least_f (a0 : Nat) (h : AH) : Option (Int32 × AH) :=
  G (xc h a0 = 15) <|
  LT (pI h a0 0 (nI 0)) fun h2 =>
  G (xc h2 a0 = 15) <|
  if (xR h2 a0 4) = 0 then (
    G (xc h2 a0 = 15) <|
    BN (X15_refused_f a0 (nI 1) h2) fun v6 h5 =>
    some (v6, h5)
  ) else (
    X15_least_B22 FU a0 (-1) (nI 0) h2
  )
theorem jX15_least (x : CT) (a0 : Nat) (h : AH) : J x qX15_least ZI 0 [(0, rv (zx x) a0)] [] h (X15_least_f a0 h) := by
  unfold X15_least_f
  refine J_aload_n 0 dX15_least_0 rv_is rfl ?_
  refine J_iconst (v := nI 0) dX15_least_1 rfl ?_
  refine J_G (fun g1 => ?_)
  refine J_putI kc_15 0 (by decide) rfl rfl rfl rfl (Or.inl rfl) kw_6_210 dX15_least_2 g1 ?_
  refine J_LTh (fun h2 => ?_)
  refine J_aload_n 0 dX15_least_5 rv_is rfl ?_
  refine J_G (fun g3 => ?_)
  refine J_getR kc_15 4 (by decide) rfl rfl kw_6_214 dX15_least_6 g3 ?_
  refine J_ifnonnull (tgt := 18) dX15_least_9 rfl ?_ ?_
  · refine J_iconst (v := (-1)) dX15_least_18 rfl ?_
    refine J_istore_n dX15_least_19 (by decide) (SD.c (lvr := [(0, rv (zx x) a0)]) [0] rfl rfl 0 rfl rfl rv_cat) ?_
    refine J_iconst (v := nI 0) dX15_least_20 rfl ?_
    refine J_istore_n dX15_least_21 (by decide) (SD.a (lvr := [(1, .int ((-1))), (0, rv (zx x) a0)]) [0, 1] rfl rfl) ?_
    exact J_sub [2, 1, 0] rfl (jX15_least_B22 x FU a0 (-1) (nI 0) h2)
  · refine J_aload_n 0 dX15_least_12 rv_is rfl ?_
    refine J_iconst (v := nI 1) dX15_least_13 rfl ?_
    refine J_G (fun g4 => ?_)
    refine J.callV (n := 1) (As := [.int (nI 1)]) kc_15 (ctX15_refused (lx x) (wx x) a0 (nI 1) h2) kw_7_139 kw_7_136 kw_7_138 kp_8 kw_1_13 (by decide +kernel) rfl (by decide) (Nat.zero_le _) rfl dX15_least_14 g4 (fun v6 h5 => ?_)
    show J x _ _ 17 _ [.int v6] h5 _
    exact J_iret dX15_least_17
theorem ctX15_least (l : Launch) (w : WT) (a0 : Nat) (h : AH) : CM l w yX15_least cX15_least 3 (some .int) 7 169 KI [rv (w.1) a0] h (X15_least_f a0 h) :=
  CM.of (by decide +kernel) (by simp [lg_sl, rv_cat, cat_I, cat_L, cat_S]) (lv := [(0, rv (w.1) a0)]) (by simp [lv_args, rv_cat, cat_I, cat_L, cat_S]) (fun x hx => by subst hx; exact jX15_least x a0 h)
-- FallTrials$Reader.read(ILFallTrials$Book;)Z
abbrev qX6_read : MT := (cX6_read, RX6, "read", (some .boolean), 9, 194, 5)
def X6_read_B186 (a0 : Nat) (h : AH) : Option (Int32 × AH) :=
  G (xc h a0 = 6) <|
  BN (X6_flawed_f a0 (nI 1) h) fun v3 h2 =>
  G (bz v3) <|
  some (v3, h2)
theorem jX6_read_B186 (x : CT) (a0 : Nat) (h : AH) : J x qX6_read ZI 186 [(0, rv (zx x) a0)] [] h (X6_read_B186 a0 h) := by
  unfold X6_read_B186
  refine J_aload_n 0 dX6_read_186 rv_is rfl ?_
  refine J_iconst (v := nI 1) dX6_read_187 rfl ?_
  refine J_G (fun g1 => ?_)
  refine J.callV (n := 1) (As := [.int (nI 1)]) kc_6 (ctX6_flawed (lx x) (wx x) a0 (nI 1) h) kw_3_213 kw_3_210 kw_3_211 kw_3_212 kw_1_4 (by decide +kernel) rfl (by decide) (Nat.zero_le _) rfl dX6_read_188 g1 (fun v3 h2 => ?_)
  show J x _ _ 191 _ [.int v3] h2 _
  refine J_G (fun g4 => ?_)
  exact J_zret dX6_read_191 g4
def X6_read_B173 (k50 : (Nat → Int32 → AH → Option (Int32 × AH))) (a0 : Nat) (i3 : Int32) (i4 : Int32) (h : AH) : Option (Int32 × AH) :=
  if i4 = 0 then (
    some (nI 0, h)
  ) else (
    LT (i3 + nI 1) fun v1 =>
    k50 a0 v1 h
  )
theorem jX6_read_B173 (x : CT) (k50 : (Nat → Int32 → AH → Option (Int32 × AH))) (hk50 : ∀ (a0 : Nat) (i3 : Int32) (h : AH), J x qX6_read ZI 50 [(0, rv (zx x) a0), (3, .int i3)] [] h (k50 a0 i3 h)) (a0 : Nat) (i3 : Int32) (i4 : Int32) (h : AH) : J x qX6_read ZI 173 [(0, rv (zx x) a0), (3, .int i3), (4, .int i4)] [] h (X6_read_B173 k50 a0 i3 i4 h) := by
  unfold X6_read_B173
  refine J_iload 2 dX6_read_173 rfl ?_
  refine J_if_ne (tgt := 180) dX6_read_175 rfl ?_ ?_
  · refine J_iincL (u := i3 + nI 1) 1 dX6_read_180 rfl rfl (by decide) (SD.a (lvr := [(0, rv (zx x) a0)]) [0] rfl rfl) (fun v1 => ?_)
    refine J_goto (tgt := 50) dX6_read_183 rfl ?_
    exact J_sub [1, 0] rfl (hk50 a0 v1 h)
  · refine J_iconst (v := nI 0) dX6_read_178 rfl ?_
    exact J_zret dX6_read_179 (by decide)
def X6_read_B71 (a0 : Nat) (h : AH) : Option (Int32 × AH) :=
  G (xc h a0 = 6) <|
  BN (X6_readPromise_f a0 h) fun v3 h2 =>
  G (bz v3) <|
  some (v3, h2)
theorem jX6_read_B71 (x : CT) (a0 : Nat) (h : AH) : J x qX6_read ZI 71 [(0, rv (zx x) a0)] [] h (X6_read_B71 a0 h) := by
  unfold X6_read_B71
  refine J_aload_n 0 dX6_read_71 rv_is rfl ?_
  refine J_G (fun g1 => ?_)
  refine J.callV (n := 0) (As := []) kc_6 (ctX6_readPromise (lx x) (wx x) a0 h) kw_3_187 kw_3_184 kw_3_185 kw_3_186 kw_1_4 (by decide +kernel) rfl (by decide) (Nat.zero_le _) rfl dX6_read_72 g1 (fun v3 h2 => ?_)
  show J x _ _ 75 _ [.int v3] h2 _
  refine J_G (fun g4 => ?_)
  exact J_zret dX6_read_75 g4
def X6_read_B50 : Nat → Nat → Int32 → AH → Option (Int32 × AH)
  | 0, _, _, _ => none
  | n + 1, a0, i3, h =>
    G (xc h a0 = 6) <|
    if (xI h a0 5) < i3 then (
      X6_read_B186 a0 h
    ) else (
      G (xc h a0 = 6) <|
      BN (X6_step_f a0 h) fun _ h3 =>
      G (xc h3 a0 = 6) <|
      BN (X6_spells_f a0 12 h3) fun v6 h5 =>
      if v6 = 0 then (
        G (xc h5 a0 = 6) <|
        BN (X6_spells_f a0 6 h5) fun v9 h8 =>
        if v9 = 0 then (
          G (xc h8 a0 = 6) <|
          BN (X6_spells_f a0 13 h8) fun v12 h11 =>
          if v12 = 0 then (
            G (xc h11 a0 = 6) <|
            BN (X6_spells_f a0 2 h11) fun v15 h14 =>
            if v15 = 0 then (
              G (xc h14 a0 = 6) <|
              BN (X6_spells_f a0 14 h14) fun v18 h17 =>
              if v18 = 0 then (
                G (xc h17 a0 = 6) <|
                BN (X6_spells_f a0 15 h17) fun v21 h20 =>
                if v21 = 0 then (
                  G (xc h20 a0 = 6) <|
                  BN (X6_flawed_f a0 (nI 1) h20) fun v24 h23 =>
                  X6_read_B173 (X6_read_B50 n) a0 i3 v24 h23
                ) else (
                  G (xc h20 a0 = 6) <|
                  BN (X6_readSend_f a0 h20) fun v27 h26 =>
                  X6_read_B173 (X6_read_B50 n) a0 i3 v27 h26
                )
              ) else (
                G (xc h17 a0 = 6) <|
                BN (X6_readRule_f a0 h17) fun v30 h29 =>
                X6_read_B173 (X6_read_B50 n) a0 i3 v30 h29
              )
            ) else (
              G (xc h14 a0 = 6) <|
              BN (X6_readFact_f a0 h14) fun v33 h32 =>
              X6_read_B173 (X6_read_B50 n) a0 i3 v33 h32
            )
          ) else (
            G (xc h11 a0 = 6) <|
            BN (X6_readRow_f a0 h11) fun v36 h35 =>
            X6_read_B173 (X6_read_B50 n) a0 i3 v36 h35
          )
        ) else (
          G (xc h8 a0 = 6) <|
          BN (X6_readMachine_f a0 h8) fun v39 h38 =>
          X6_read_B173 (X6_read_B50 n) a0 i3 v39 h38
        )
      ) else (
        X6_read_B71 a0 h5
      )
    )
theorem jX6_read_B50 (x : CT) : ∀ (n : Nat) (a0 : Nat) (i3 : Int32) (h : AH), J x qX6_read ZI 50 [(0, rv (zx x) a0), (3, .int i3)] [] h (X6_read_B50 n a0 i3 h) := by
  intro n
  induction n with
  | zero => intro a0 i3 h; exact J_none
  | succ n ih =>
    intro a0 i3 h
    unfold X6_read_B50
    refine J_iload_n 1 dX6_read_50 rfl ?_
    refine J_aload_n 0 dX6_read_51 rv_is rfl ?_
    refine J_G (fun g1 => ?_)
    refine J_getI kc_6 5 (by decide) rfl rfl kw_1_211 dX6_read_52 g1 ?_
    refine J_icmp_gt (tgt := 186) dX6_read_55 rfl ?_ ?_
    · exact J_sub [0] rfl (jX6_read_B186 x a0 h)
    · refine J_aload_n 0 dX6_read_58 rv_is rfl ?_
      refine J_G (fun g2 => ?_)
      refine J.callV (n := 0) (As := []) kc_6 (ctX6_step (lx x) (wx x) a0 h) kw_3_130 kw_3_127 kw_3_128 kw_3_129 kw_1_4 (by decide +kernel) rfl (by decide) (Nat.zero_le _) rfl dX6_read_59 g2 (fun _ h3 => ?_)
      show J x _ _ 62 _ [] h3 _
      refine J_aload_n 0 dX6_read_62 rv_is rfl ?_
      refine J_ldcS (i := 12) (tx := "promise") (index := 60) (by decide +kernel) dX6_read_63 ?_
      refine J_G (fun g4 => ?_)
      refine J.callV (n := 1) (As := [sv (wx x) 12]) kc_6 (ctX6_spells (lx x) (wx x) a0 12 h3) kw_3_135 kw_3_132 kw_3_133 kw_3_134 kw_1_4 (by decide +kernel) rfl (by decide) (Nat.zero_le _) rfl dX6_read_65 g4 (fun v6 h5 => ?_)
      show J x _ _ 68 _ [.int v6] h5 _
      refine J_if_eq (tgt := 76) dX6_read_68 rfl ?_ ?_
      · refine J_aload_n 0 dX6_read_76 rv_is rfl ?_
        refine J_ldcS (i := 6) (tx := "machine") (index := 70) (by decide +kernel) dX6_read_77 ?_
        refine J_G (fun g7 => ?_)
        refine J.callV (n := 1) (As := [sv (wx x) 6]) kc_6 (ctX6_spells (lx x) (wx x) a0 6 h5) kw_3_135 kw_3_132 kw_3_133 kw_3_134 kw_1_4 (by decide +kernel) rfl (by decide) (Nat.zero_le _) rfl dX6_read_79 g7 (fun v9 h8 => ?_)
        show J x _ _ 82 _ [.int v9] h8 _
        refine J_if_eq (tgt := 94) dX6_read_82 rfl ?_ ?_
        · refine J_aload_n 0 dX6_read_94 rv_is rfl ?_
          refine J_ldcS (i := 13) (tx := "row") (index := 75) (by decide +kernel) dX6_read_95 ?_
          refine J_G (fun g10 => ?_)
          refine J.callV (n := 1) (As := [sv (wx x) 13]) kc_6 (ctX6_spells (lx x) (wx x) a0 13 h8) kw_3_135 kw_3_132 kw_3_133 kw_3_134 kw_1_4 (by decide +kernel) rfl (by decide) (Nat.zero_le _) rfl dX6_read_97 g10 (fun v12 h11 => ?_)
          show J x _ _ 100 _ [.int v12] h11 _
          refine J_if_eq (tgt := 112) dX6_read_100 rfl ?_ ?_
          · refine J_aload_n 0 dX6_read_112 rv_is rfl ?_
            refine J_ldcS (i := 2) (tx := "fact") (index := 80) (by decide +kernel) dX6_read_113 ?_
            refine J_G (fun g13 => ?_)
            refine J.callV (n := 1) (As := [sv (wx x) 2]) kc_6 (ctX6_spells (lx x) (wx x) a0 2 h11) kw_3_135 kw_3_132 kw_3_133 kw_3_134 kw_1_4 (by decide +kernel) rfl (by decide) (Nat.zero_le _) rfl dX6_read_115 g13 (fun v15 h14 => ?_)
            show J x _ _ 118 _ [.int v15] h14 _
            refine J_if_eq (tgt := 130) dX6_read_118 rfl ?_ ?_
            · refine J_aload_n 0 dX6_read_130 rv_is rfl ?_
              refine J_ldcS (i := 14) (tx := "rule") (index := 85) (by decide +kernel) dX6_read_131 ?_
              refine J_G (fun g16 => ?_)
              refine J.callV (n := 1) (As := [sv (wx x) 14]) kc_6 (ctX6_spells (lx x) (wx x) a0 14 h14) kw_3_135 kw_3_132 kw_3_133 kw_3_134 kw_1_4 (by decide +kernel) rfl (by decide) (Nat.zero_le _) rfl dX6_read_133 g16 (fun v18 h17 => ?_)
              show J x _ _ 136 _ [.int v18] h17 _
              refine J_if_eq (tgt := 148) dX6_read_136 rfl ?_ ?_
              · refine J_aload_n 0 dX6_read_148 rv_is rfl ?_
                refine J_ldcS (i := 15) (tx := "send") (index := 90) (by decide +kernel) dX6_read_149 ?_
                refine J_G (fun g19 => ?_)
                refine J.callV (n := 1) (As := [sv (wx x) 15]) kc_6 (ctX6_spells (lx x) (wx x) a0 15 h17) kw_3_135 kw_3_132 kw_3_133 kw_3_134 kw_1_4 (by decide +kernel) rfl (by decide) (Nat.zero_le _) rfl dX6_read_151 g19 (fun v21 h20 => ?_)
                show J x _ _ 154 _ [.int v21] h20 _
                refine J_if_eq (tgt := 166) dX6_read_154 rfl ?_ ?_
                · refine J_aload_n 0 dX6_read_166 rv_is rfl ?_
                  refine J_iconst (v := nI 1) dX6_read_167 rfl ?_
                  refine J_G (fun g22 => ?_)
                  refine J.callV (n := 1) (As := [.int (nI 1)]) kc_6 (ctX6_flawed (lx x) (wx x) a0 (nI 1) h20) kw_3_213 kw_3_210 kw_3_211 kw_3_212 kw_1_4 (by decide +kernel) rfl (by decide) (Nat.zero_le _) rfl dX6_read_168 g22 (fun v24 h23 => ?_)
                  show J x _ _ 171 _ [.int v24] h23 _
                  refine J_istore dX6_read_171 (by decide) (SD.a (lvr := [(0, rv (zx x) a0), (3, .int i3)]) [0, 1] rfl rfl) ?_
                  exact J_sub [1, 2, 0] rfl (jX6_read_B173 x (X6_read_B50 n) ih a0 i3 v24 h23)
                · refine J_aload_n 0 dX6_read_157 rv_is rfl ?_
                  refine J_G (fun g25 => ?_)
                  refine J.callV (n := 0) (As := []) kc_6 (ctX6_readSend (lx x) (wx x) a0 h20) kw_4_43 kw_4_40 kw_4_41 kw_4_42 kw_1_4 (by decide +kernel) rfl (by decide) (Nat.zero_le _) rfl dX6_read_158 g25 (fun v27 h26 => ?_)
                  show J x _ _ 161 _ [.int v27] h26 _
                  refine J_istore dX6_read_161 (by decide) (SD.a (lvr := [(0, rv (zx x) a0), (3, .int i3)]) [0, 1] rfl rfl) ?_
                  refine J_goto (tgt := 173) dX6_read_163 rfl ?_
                  exact J_sub [1, 2, 0] rfl (jX6_read_B173 x (X6_read_B50 n) ih a0 i3 v27 h26)
              · refine J_aload_n 0 dX6_read_139 rv_is rfl ?_
                refine J_G (fun g28 => ?_)
                refine J.callV (n := 0) (As := []) kc_6 (ctX6_readRule (lx x) (wx x) a0 h17) kw_4_25 kw_4_22 kw_4_23 kw_4_24 kw_1_4 (by decide +kernel) rfl (by decide) (Nat.zero_le _) rfl dX6_read_140 g28 (fun v30 h29 => ?_)
                show J x _ _ 143 _ [.int v30] h29 _
                refine J_istore dX6_read_143 (by decide) (SD.a (lvr := [(0, rv (zx x) a0), (3, .int i3)]) [0, 1] rfl rfl) ?_
                refine J_goto (tgt := 173) dX6_read_145 rfl ?_
                exact J_sub [1, 2, 0] rfl (jX6_read_B173 x (X6_read_B50 n) ih a0 i3 v30 h29)
            · refine J_aload_n 0 dX6_read_121 rv_is rfl ?_
              refine J_G (fun g31 => ?_)
              refine J.callV (n := 0) (As := []) kc_6 (ctX6_readFact (lx x) (wx x) a0 h14) kw_4_12 kw_4_9 kw_4_10 kw_4_11 kw_1_4 (by decide +kernel) rfl (by decide) (Nat.zero_le _) rfl dX6_read_122 g31 (fun v33 h32 => ?_)
              show J x _ _ 125 _ [.int v33] h32 _
              refine J_istore dX6_read_125 (by decide) (SD.a (lvr := [(0, rv (zx x) a0), (3, .int i3)]) [0, 1] rfl rfl) ?_
              refine J_goto (tgt := 173) dX6_read_127 rfl ?_
              exact J_sub [1, 2, 0] rfl (jX6_read_B173 x (X6_read_B50 n) ih a0 i3 v33 h32)
          · refine J_aload_n 0 dX6_read_103 rv_is rfl ?_
            refine J_G (fun g34 => ?_)
            refine J.callV (n := 0) (As := []) kc_6 (ctX6_readRow (lx x) (wx x) a0 h11) kw_4_7 kw_4_4 kw_4_5 kw_4_6 kw_1_4 (by decide +kernel) rfl (by decide) (Nat.zero_le _) rfl dX6_read_104 g34 (fun v36 h35 => ?_)
            show J x _ _ 107 _ [.int v36] h35 _
            refine J_istore dX6_read_107 (by decide) (SD.a (lvr := [(0, rv (zx x) a0), (3, .int i3)]) [0, 1] rfl rfl) ?_
            refine J_goto (tgt := 173) dX6_read_109 rfl ?_
            exact J_sub [1, 2, 0] rfl (jX6_read_B173 x (X6_read_B50 n) ih a0 i3 v36 h35)
        · refine J_aload_n 0 dX6_read_85 rv_is rfl ?_
          refine J_G (fun g37 => ?_)
          refine J.callV (n := 0) (As := []) kc_6 (ctX6_readMachine (lx x) (wx x) a0 h8) kw_3_235 kw_3_232 kw_3_233 kw_3_234 kw_1_4 (by decide +kernel) rfl (by decide) (Nat.zero_le _) rfl dX6_read_86 g37 (fun v39 h38 => ?_)
          show J x _ _ 89 _ [.int v39] h38 _
          refine J_istore dX6_read_89 (by decide) (SD.a (lvr := [(0, rv (zx x) a0), (3, .int i3)]) [0, 1] rfl rfl) ?_
          refine J_goto (tgt := 173) dX6_read_91 rfl ?_
          exact J_sub [1, 2, 0] rfl (jX6_read_B173 x (X6_read_B50 n) ih a0 i3 v39 h38)
      · exact J_sub [0] rfl (jX6_read_B71 x a0 h5)
def X6_read_f (a0 : Nat) (i1 : Int32) (a2 : Nat) (h : AH) : Option (Int32 × AH) :=
  G (xc h a0 = 6) <|
  LT (pI h a0 5 (if (nI 0) < (if (xI h a0 4) < i1 then (xI h a0 4) else i1) then (if (xI h a0 4) < i1 then (xI h a0 4) else i1) else (nI 0))) fun h2 =>
  G (xc h2 a0 = 6) <|
  LT (pI h2 a0 4 (nI 0)) fun h4 =>
  G (xc h4 a0 = 6) <|
  LT (pI h4 a0 7 (nI 0)) fun h6 =>
  G (xc h6 a0 = 6) <|
  LT (pI h6 a0 3 (nI 0)) fun h8 =>
  G (xc h8 a0 = 6) <|
  LT (pI h8 a0 9 (nI 0)) fun h10 =>
  G (xc h10 a0 = 6) <|
  LT (pR h10 a0 10 a2) fun h12 =>
  G (xc h12 a0 = 6) <|
  G (xc h12 (xR h12 a0 10) = 0) <|
  BN (X0_wipe_f (xR h12 a0 10) h12) fun _ h15 =>
  X6_read_B50 FU a0 (nI 0) h15
theorem jX6_read (x : CT) (a0 : Nat) (i1 : Int32) (a2 : Nat) (h : AH) : J x qX6_read ZI 0 [(0, rv (zx x) a0), (1, .int i1), (2, rv (zx x) a2)] [] h (X6_read_f a0 i1 a2 h) := by
  unfold X6_read_f
  refine J_aload_n 0 dX6_read_0 rv_is rfl ?_
  refine J_iconst (v := nI 0) dX6_read_1 rfl ?_
  refine J_iload_n 1 dX6_read_2 rfl ?_
  refine J_aload_n 0 dX6_read_3 rv_is rfl ?_
  refine J_G (fun g1 => ?_)
  refine J_getI kc_6 4 (by decide) rfl rfl kw_1_210 dX6_read_4 g1 ?_
  refine J_mmin kw_3_117 kw_3_118 kw_1_19 kw_3_119 ⟨by decide, by simp [rv_cat, cat_I, cat_L, cat_S]⟩ dX6_read_7 ?_
  refine J_mmax kw_3_120 kw_3_121 kw_1_19 kw_3_122 ⟨by decide, by simp [rv_cat, cat_I, cat_L, cat_S]⟩ dX6_read_10 ?_
  refine J_putI kc_6 5 (by decide) rfl rfl rfl rfl (Or.inl rfl) kw_1_211 dX6_read_13 g1 ?_
  refine J_LTh (fun h2 => ?_)
  refine J_aload_n 0 dX6_read_16 rv_is rfl ?_
  refine J_iconst (v := nI 0) dX6_read_17 rfl ?_
  refine J_G (fun g3 => ?_)
  refine J_putI kc_6 4 (by decide) rfl rfl rfl rfl (Or.inl rfl) kw_1_210 dX6_read_18 g3 ?_
  refine J_LTh (fun h4 => ?_)
  refine J_aload_n 0 dX6_read_21 rv_is rfl ?_
  refine J_iconst (v := nI 0) dX6_read_22 rfl ?_
  refine J_G (fun g5 => ?_)
  refine J_putI kc_6 7 (by decide) rfl rfl rfl rfl (Or.inl rfl) kw_1_214 dX6_read_23 g5 ?_
  refine J_LTh (fun h6 => ?_)
  refine J_aload_n 0 dX6_read_26 rv_is rfl ?_
  refine J_iconst (v := nI 0) dX6_read_27 rfl ?_
  refine J_G (fun g7 => ?_)
  refine J_putI kc_6 3 (by decide) rfl rfl rfl rfl (Or.inl rfl) kw_1_208 dX6_read_28 g7 ?_
  refine J_LTh (fun h8 => ?_)
  refine J_aload_n 0 dX6_read_31 rv_is rfl ?_
  refine J_iconst (v := nI 0) dX6_read_32 rfl ?_
  refine J_G (fun g9 => ?_)
  refine J_putI kc_6 9 (by decide) rfl rfl rfl rfl (Or.inl rfl) kw_1_216 dX6_read_33 g9 ?_
  refine J_LTh (fun h10 => ?_)
  refine J_aload_n 0 dX6_read_36 rv_is rfl ?_
  refine J_aload_n 2 dX6_read_37 rv_is rfl ?_
  refine J_G (fun g11 => ?_)
  refine J_putR kc_6 10 (by decide) rfl rfl (Or.inl ⟨_, rfl⟩) (Or.inl rfl) kw_1_218 dX6_read_38 g11 ?_
  refine J_LTh (fun h12 => ?_)
  refine J_aload_n 0 dX6_read_41 rv_is rfl ?_
  refine J_G (fun g13 => ?_)
  refine J_getR kc_6 10 (by decide) rfl rfl kw_1_218 dX6_read_42 g13 ?_
  refine J_G (fun g14 => ?_)
  refine J.callV (n := 0) (As := []) kc_0 (ctX0_wipe (lx x) (wx x) (xR h12 a0 10) h12) kw_3_126 kw_3_123 kw_3_124 kw_3_125 kw_1_2 (by decide +kernel) rfl (by decide) (Nat.zero_le _) rfl dX6_read_45 g14 (fun _ h15 => ?_)
  show J x _ _ 48 _ [] h15 _
  refine J_iconst (v := nI 0) dX6_read_48 rfl ?_
  refine J_istore_n dX6_read_49 (by decide) (SD.a (lvr := [(0, rv (zx x) a0)]) [0] rfl rfl) ?_
  exact J_sub [1, 0] rfl (jX6_read_B50 x FU a0 (nI 0) h15)
theorem ctX6_read (l : Launch) (w : WT) (a0 : Nat) (i1 : Int32) (a2 : Nat) (h : AH) : CM l w yX6_read cX6_read 5 (some .boolean) 9 194 KI [rv (w.1) a0, .int i1, rv (w.1) a2] h (X6_read_f a0 i1 a2 h) :=
  CM.of (by decide +kernel) (by simp [lg_sl, rv_cat, cat_I, cat_L, cat_S]) (lv := [(0, rv (w.1) a0), (1, .int i1), (2, rv (w.1) a2)]) (by simp [lv_args, rv_cat, cat_I, cat_L, cat_S]) (fun x hx => by subst hx; exact jX6_read x a0 i1 a2 h)
-- FallTrials$Trials.search(LFallTrials$Works;I)I
abbrev qX9_search : MT := (cX9_search, RX9, "search", (some .int), 6, 161, 5)
def X9_search_B41 : Nat → Nat → Nat → Int32 → Int32 → AH → Option (Int32 × AH)
  | 0, _, _, _, _, _ => none
  | n + 1, a0, a1, i2, i3, h =>
    if (nI 1000000) ≤ i3 then (
      some (nI 0, h)
    ) else (
      G (xc h a0 = 9) <|
      G (xc h (xR h a0 0) = 5) <|
      BN (X5_advance_f (xR h a0 0) h) fun v4 h3 =>
      if v4 = 0 then (
        some (nI 0, h3)
      ) else (
        G (xc h3 a0 = 9) <|
        BN (X9_searchBundle_f a0 a1 i2 h3) fun v7 h6 =>
        if v7 = (-1) then (
          LT (i3 + nI 1) fun v8 =>
          X9_search_B41 n a0 a1 i2 v8 h6
        ) else (
          some (v7, h6)
        )
      )
    )
theorem jX9_search_B41 (x : CT) : ∀ (n : Nat) (a0 : Nat) (a1 : Nat) (i2 : Int32) (i3 : Int32) (h : AH), J x qX9_search ZI 41 [(0, rv (zx x) a0), (1, rv (zx x) a1), (2, .int i2), (3, .int i3)] [] h (X9_search_B41 n a0 a1 i2 i3 h) := by
  intro n
  induction n with
  | zero => intro a0 a1 i2 i3 h; exact J_none
  | succ n ih =>
    intro a0 a1 i2 i3 h
    unfold X9_search_B41
    refine J_iload_n 3 dX9_search_41 rfl ?_
    refine J_ldc (v := nI 1000000) dX9_search_42 (kw_5_126 : Cond.constant _ _ (nI 1000000) ∈ WG) ?_
    refine J_icmp_ge (tgt := 80) dX9_search_44 rfl ?_ ?_
    · refine J_iconst (v := nI 0) dX9_search_80 rfl ?_
      exact J_iret dX9_search_81
    · refine J_aload_n 0 dX9_search_47 rv_is rfl ?_
      refine J_G (fun g1 => ?_)
      refine J_getR kc_9 0 (by decide) rfl rfl kw_2_233 dX9_search_48 g1 ?_
      refine J_G (fun g2 => ?_)
      refine J.callV (n := 0) (As := []) kc_5 (ctX5_advance (lx x) (wx x) (xR h a0 0) h) kw_5_130 kw_5_127 kw_5_128 kw_5_129 kw_1_8 (by decide +kernel) rfl (by decide) (Nat.zero_le _) rfl dX9_search_51 g2 (fun v4 h3 => ?_)
      show J x _ _ 54 _ [.int v4] h3 _
      refine J_if_eq (tgt := 80) dX9_search_54 rfl ?_ ?_
      · refine J_iconst (v := nI 0) dX9_search_80 rfl ?_
        exact J_iret dX9_search_81
      · refine J_aload_n 0 dX9_search_57 rv_is rfl ?_
        refine J_aload_n 1 dX9_search_58 rv_is rfl ?_
        refine J_iload_n 2 dX9_search_59 rfl ?_
        refine J_G (fun g5 => ?_)
        refine J.callV (n := 2) (As := [rv (zx x) a1, .int i2]) kc_9 (ctX9_searchBundle (lx x) (wx x) a0 a1 i2 h3) kw_5_139 kw_5_136 kw_5_137 kw_5_138 kw_1_7 (by decide +kernel) rfl (by decide) (Nat.zero_le _) rfl dX9_search_60 g5 (fun v7 h6 => ?_)
        show J x _ _ 63 _ [.int v7] h6 _
        refine J_istore dX9_search_63 (by decide) (SD.a (lvr := [(0, rv (zx x) a0), (1, rv (zx x) a1), (2, .int i2), (3, .int i3)]) [0, 1, 2, 3] rfl rfl) ?_
        refine J_iload 0 dX9_search_65 rfl ?_
        refine J_iconst (v := (-1)) dX9_search_67 rfl ?_
        refine J_icmp_eq (tgt := 74) dX9_search_68 rfl ?_ ?_
        · refine J_iincL (u := i3 + nI 1) 4 dX9_search_74 rfl rfl (by decide) (SD.a (lvr := [(0, rv (zx x) a0), (1, rv (zx x) a1), (2, .int i2)]) [1, 2, 3] rfl rfl) (fun v8 => ?_)
          refine J_goto (tgt := 41) dX9_search_77 rfl ?_
          exact J_sub [1, 2, 3, 0] rfl (ih a0 a1 i2 v8 h6)
        · refine J_iload 0 dX9_search_71 rfl ?_
          exact J_iret dX9_search_73
def X9_search_f (a0 : Nat) (a1 : Nat) (i2 : Int32) (h : AH) : Option (Int32 × AH) :=
  G (xc h a0 = 9) <|
  LT (pI h a0 10 (nI 0)) fun h2 =>
  G (xc h2 a0 = 9) <|
  LT (pI h2 a0 11 (nI 1)) fun h4 =>
  G (xc h4 a0 = 9) <|
  G (xc h4 (xR h4 a0 5) = 4) <|
  BN (X4_wipe_f (xR h4 a0 5) h4) fun _ h7 =>
  G (xc h7 a0 = 9) <|
  BN (X9_formula_f a0 (nI 0) h7) fun r10 h9 =>
  G (xc h9 a0 = 9) <|
  BN (X9_play_f a0 a1 (xR h7 a0 7) r10 h9) fun _ h12 =>
  G (xc h12 a0 = 9) <|
  G (xc h12 (xR h12 a0 0) = 5) <|
  BN (X5_begin_f (xR h12 a0 0) a1 h12) fun _ h15 =>
  X9_search_B41 FU a0 a1 i2 (nI 0) h15
theorem jX9_search (x : CT) (a0 : Nat) (a1 : Nat) (i2 : Int32) (h : AH) : J x qX9_search ZI 0 [(0, rv (zx x) a0), (1, rv (zx x) a1), (2, .int i2)] [] h (X9_search_f a0 a1 i2 h) := by
  unfold X9_search_f
  refine J_aload_n 0 dX9_search_0 rv_is rfl ?_
  refine J_iconst (v := nI 0) dX9_search_1 rfl ?_
  refine J_G (fun g1 => ?_)
  refine J_putI kc_9 10 (by decide) rfl rfl rfl rfl (Or.inl rfl) kw_3_7 dX9_search_2 g1 ?_
  refine J_LTh (fun h2 => ?_)
  refine J_aload_n 0 dX9_search_5 rv_is rfl ?_
  refine J_iconst (v := nI 1) dX9_search_6 rfl ?_
  refine J_G (fun g3 => ?_)
  refine J_putI kc_9 11 (by decide) rfl rfl rfl rfl (Or.inl rfl) kw_3_9 dX9_search_7 g3 ?_
  refine J_LTh (fun h4 => ?_)
  refine J_aload_n 0 dX9_search_10 rv_is rfl ?_
  refine J_G (fun g5 => ?_)
  refine J_getR kc_9 5 (by decide) rfl rfl kw_2_239 dX9_search_11 g5 ?_
  refine J_G (fun g6 => ?_)
  refine J.callV (n := 0) (As := []) kc_4 (ctX4_wipe (lx x) (wx x) (xR h4 a0 5) h4) kw_4_52 kw_4_61 kw_4_50 kw_4_51 kw_1_6 (by decide +kernel) rfl (by decide) (Nat.zero_le _) rfl dX9_search_14 g6 (fun _ h7 => ?_)
  show J x _ _ 17 _ [] h7 _
  refine J_aload_n 0 dX9_search_17 rv_is rfl ?_
  refine J_aload_n 1 dX9_search_18 rv_is rfl ?_
  refine J_aload_n 0 dX9_search_19 rv_is rfl ?_
  refine J_G (fun g8 => ?_)
  refine J_getR kc_9 7 (by decide) rfl rfl kw_3_3 dX9_search_20 g8 ?_
  refine J_aload_n 0 dX9_search_23 rv_is rfl ?_
  refine J_iconst (v := nI 0) dX9_search_24 rfl ?_
  refine J.callV (n := 1) (As := [.int (nI 0)]) kc_9 (ctX9_formula (lx x) (wx x) a0 (nI 0) h7) kw_5_119 kw_5_116 kw_5_117 kw_5_118 kw_1_7 (by decide +kernel) rfl (by decide) (by simp [rv_cat, cat_I, cat_L, cat_S]) rfl dX9_search_25 g8 (fun r10 h9 => ?_)
  show J x _ _ 28 _ [rv (zx x) r10, rv (zx x) (xR h7 a0 7), rv (zx x) a1, rv (zx x) a0] h9 _
  refine J_G (fun g11 => ?_)
  refine J.callV (n := 3) (As := [rv (zx x) a1, rv (zx x) (xR h7 a0 7), rv (zx x) r10]) kc_9 (ctX9_play (lx x) (wx x) a0 a1 (xR h7 a0 7) r10 h9) kw_4_116 kw_5_120 kw_4_114 kw_4_115 kw_1_7 (by decide +kernel) rfl (by decide) (Nat.zero_le _) rfl dX9_search_28 g11 (fun _ h12 => ?_)
  show J x _ _ 31 _ [] h12 _
  refine J_aload_n 0 dX9_search_31 rv_is rfl ?_
  refine J_G (fun g13 => ?_)
  refine J_getR kc_9 0 (by decide) rfl rfl kw_2_233 dX9_search_32 g13 ?_
  refine J_aload_n 1 dX9_search_35 rv_is rfl ?_
  refine J_G (fun g14 => ?_)
  refine J.callV (n := 1) (As := [rv (zx x) a1]) kc_5 (ctX5_begin (lx x) (wx x) (xR h12 a0 0) a1 h12) kw_5_124 kw_5_121 kw_5_122 kw_5_123 kw_1_8 (by decide +kernel) rfl (by decide) (Nat.zero_le _) rfl dX9_search_36 g14 (fun _ h15 => ?_)
  show J x _ _ 39 _ [] h15 _
  refine J_iconst (v := nI 0) dX9_search_39 rfl ?_
  refine J_istore_n dX9_search_40 (by decide) (SD.a (lvr := [(0, rv (zx x) a0), (1, rv (zx x) a1), (2, .int i2)]) [0, 1, 2] rfl rfl) ?_
  exact J_sub [1, 2, 3, 0] rfl (jX9_search_B41 x FU a0 a1 i2 (nI 0) h15)
theorem ctX9_search (l : Launch) (w : WT) (a0 : Nat) (a1 : Nat) (i2 : Int32) (h : AH) : CM l w yX9_search cX9_search 5 (some .int) 6 161 KI [rv (w.1) a0, rv (w.1) a1, .int i2] h (X9_search_f a0 a1 i2 h) :=
  CM.of (by decide +kernel) (by simp [lg_sl, rv_cat, cat_I, cat_L, cat_S]) (lv := [(0, rv (w.1) a0), (1, rv (w.1) a1), (2, .int i2)]) (by simp [lv_args, rv_cat, cat_I, cat_L, cat_S]) (fun x hx => by subst hx; exact jX9_search x a0 a1 i2 h)
-- FallTrials$Trials.thinnest(LFallTrials$Works;)I
abbrev qX9_thinnest : MT := (cX9_thinnest, RX9, "thinnest", (some .int), 6, 157, 7)
def X9_thinnest_B94 (a0 : Nat) (i2 : Int32) (i3 : Int32) (h : AH) : Option (Int32 × AH) :=
  if i2 = (-1) then (
    some (i2, h)
  ) else (
    G (xc h a0 = 9) <|
    LT (pI h a0 12 i3) fun h2 =>
    some (i2, h2)
  )
theorem jX9_thinnest_B94 (x : CT) (a0 : Nat) (i2 : Int32) (i3 : Int32) (h : AH) : J x qX9_thinnest ZI 94 [(0, rv (zx x) a0), (2, .int i2), (3, .int i3)] [] h (X9_thinnest_B94 a0 i2 i3 h) := by
  unfold X9_thinnest_B94
  refine J_iload_n 1 dX9_thinnest_94 rfl ?_
  refine J_iconst (v := (-1)) dX9_thinnest_95 rfl ?_
  refine J_icmp_eq (tgt := 104) dX9_thinnest_96 rfl ?_ ?_
  · refine J_iload_n 1 dX9_thinnest_104 rfl ?_
    exact J_iret dX9_thinnest_105
  · refine J_aload_n 0 dX9_thinnest_99 rv_is rfl ?_
    refine J_iload_n 2 dX9_thinnest_100 rfl ?_
    refine J_G (fun g1 => ?_)
    refine J_putI kc_9 12 (by decide) rfl rfl rfl rfl (Or.inl rfl) kw_3_11 dX9_thinnest_101 g1 ?_
    refine J_LTh (fun h2 => ?_)
    refine J_iload_n 1 dX9_thinnest_104 rfl ?_
    exact J_iret dX9_thinnest_105
def X9_thinnest_B88 (k18 : (Nat → Nat → Int32 → Int32 → Int32 → Int32 → AH → Option (Int32 × AH))) (a0 : Nat) (a1 : Nat) (i2 : Int32) (i3 : Int32) (i4 : Int32) (i5 : Int32) (h : AH) : Option (Int32 × AH) :=
  LT (i5 + nI 1) fun v1 =>
  k18 a0 a1 i2 i3 i4 v1 h
theorem jX9_thinnest_B88 (x : CT) (k18 : (Nat → Nat → Int32 → Int32 → Int32 → Int32 → AH → Option (Int32 × AH))) (hk18 : ∀ (a0 : Nat) (a1 : Nat) (i2 : Int32) (i3 : Int32) (i4 : Int32) (i5 : Int32) (h : AH), J x qX9_thinnest ZI 18 [(0, rv (zx x) a0), (1, rv (zx x) a1), (2, .int i2), (3, .int i3), (4, .int i4), (5, .int i5)] [] h (k18 a0 a1 i2 i3 i4 i5 h)) (a0 : Nat) (a1 : Nat) (i2 : Int32) (i3 : Int32) (i4 : Int32) (i5 : Int32) (h : AH) : J x qX9_thinnest ZI 88 [(0, rv (zx x) a0), (1, rv (zx x) a1), (2, .int i2), (3, .int i3), (4, .int i4), (5, .int i5)] [] h (X9_thinnest_B88 k18 a0 a1 i2 i3 i4 i5 h) := by
  unfold X9_thinnest_B88
  refine J_iincL (u := i5 + nI 1) 5 dX9_thinnest_88 rfl rfl (by decide) (SD.a (lvr := [(0, rv (zx x) a0), (1, rv (zx x) a1), (2, .int i2), (3, .int i3), (4, .int i4)]) [0, 1, 2, 3, 4] rfl rfl) (fun v1 => ?_)
  refine J_goto (tgt := 18) dX9_thinnest_91 rfl ?_
  exact J_sub [1, 2, 3, 4, 5, 0] rfl (hk18 a0 a1 i2 i3 i4 v1 h)
def X9_thinnest_B18 : Nat → Nat → Nat → Int32 → Int32 → Int32 → Int32 → AH → Option (Int32 × AH)
  | 0, _, _, _, _, _, _, _ => none
  | n + 1, a0, a1, i2, i3, i4, i5, h =>
    if i4 ≤ i5 then (
      X9_thinnest_B94 a0 i2 i3 h
    ) else (
      if i3 ≤ (nI 1) then (
        X9_thinnest_B94 a0 i2 i3 h
      ) else (
        G (xc h a1 = 10) <|
        LT (pI h a1 2 i5) fun h2 =>
        G (xc h2 a0 = 9) <|
        BN (X9_formula_f a0 (nI 0) h2) fun r5 h4 =>
        G (xc h4 a0 = 9) <|
        BN (X9_play_f a0 a1 (xR h2 a0 7) r5 h4) fun _ h7 =>
        G (xc h7 a0 = 9) <|
        BN (X9_formula_f a0 (nI 0) h7) fun r10 h9 =>
        G (xc h9 r10 = 8) <|
        if (xI h9 r10 6) = 0 then (
          G (xc h9 a0 = 9) <|
          BN (X9_formula_f a0 (nI 0) h9) fun r14 h13 =>
          G (xc h13 a0 = 9) <|
          BN (X9_spoilSize_f a0 a1 r14 (i3 - (nI 1)) h13) fun v17 h16 =>
          if v17 = (-1) then (
            X9_thinnest_B88 (X9_thinnest_B18 n) a0 a1 i2 i3 i4 i5 h16
          ) else (
            X9_thinnest_B88 (X9_thinnest_B18 n) a0 a1 i5 v17 i4 i5 h16
          )
        ) else (
          X9_thinnest_B88 (X9_thinnest_B18 n) a0 a1 i2 i3 i4 i5 h9
        )
      )
    )
theorem jX9_thinnest_B18 (x : CT) : ∀ (n : Nat) (a0 : Nat) (a1 : Nat) (i2 : Int32) (i3 : Int32) (i4 : Int32) (i5 : Int32) (h : AH), J x qX9_thinnest ZI 18 [(0, rv (zx x) a0), (1, rv (zx x) a1), (2, .int i2), (3, .int i3), (4, .int i4), (5, .int i5)] [] h (X9_thinnest_B18 n a0 a1 i2 i3 i4 i5 h) := by
  intro n
  induction n with
  | zero => intro a0 a1 i2 i3 i4 i5 h; exact J_none
  | succ n ih =>
    intro a0 a1 i2 i3 i4 i5 h
    unfold X9_thinnest_B18
    refine J_iload 5 dX9_thinnest_18 rfl ?_
    refine J_iload 4 dX9_thinnest_20 rfl ?_
    refine J_icmp_ge (tgt := 94) dX9_thinnest_22 rfl ?_ ?_
    · exact J_sub [0, 2, 3] rfl (jX9_thinnest_B94 x a0 i2 i3 h)
    · refine J_iload_n 3 dX9_thinnest_25 rfl ?_
      refine J_iconst (v := nI 1) dX9_thinnest_26 rfl ?_
      refine J_icmp_le (tgt := 94) dX9_thinnest_27 rfl ?_ ?_
      · exact J_sub [0, 2, 3] rfl (jX9_thinnest_B94 x a0 i2 i3 h)
      · refine J_aload_n 1 dX9_thinnest_30 rv_is rfl ?_
        refine J_iload 5 dX9_thinnest_31 rfl ?_
        refine J_G (fun g1 => ?_)
        refine J_putI kc_10 2 (by decide) rfl rfl rfl rfl (Or.inl rfl) kw_2_26 dX9_thinnest_33 g1 ?_
        refine J_LTh (fun h2 => ?_)
        refine J_aload_n 0 dX9_thinnest_36 rv_is rfl ?_
        refine J_aload_n 1 dX9_thinnest_37 rv_is rfl ?_
        refine J_aload_n 0 dX9_thinnest_38 rv_is rfl ?_
        refine J_G (fun g3 => ?_)
        refine J_getR kc_9 7 (by decide) rfl rfl kw_3_3 dX9_thinnest_39 g3 ?_
        refine J_aload_n 0 dX9_thinnest_42 rv_is rfl ?_
        refine J_iconst (v := nI 0) dX9_thinnest_43 rfl ?_
        refine J.callV (n := 1) (As := [.int (nI 0)]) kc_9 (ctX9_formula (lx x) (wx x) a0 (nI 0) h2) kw_5_119 kw_5_116 kw_5_117 kw_5_118 kw_1_7 (by decide +kernel) rfl (by decide) (by simp [rv_cat, cat_I, cat_L, cat_S]) rfl dX9_thinnest_44 g3 (fun r5 h4 => ?_)
        show J x _ _ 47 _ [rv (zx x) r5, rv (zx x) (xR h2 a0 7), rv (zx x) a1, rv (zx x) a0] h4 _
        refine J_G (fun g6 => ?_)
        refine J.callV (n := 3) (As := [rv (zx x) a1, rv (zx x) (xR h2 a0 7), rv (zx x) r5]) kc_9 (ctX9_play (lx x) (wx x) a0 a1 (xR h2 a0 7) r5 h4) kw_4_116 kw_5_120 kw_4_114 kw_4_115 kw_1_7 (by decide +kernel) rfl (by decide) (Nat.zero_le _) rfl dX9_thinnest_47 g6 (fun _ h7 => ?_)
        show J x _ _ 50 _ [] h7 _
        refine J_aload_n 0 dX9_thinnest_50 rv_is rfl ?_
        refine J_iconst (v := nI 0) dX9_thinnest_51 rfl ?_
        refine J_G (fun g8 => ?_)
        refine J.callV (n := 1) (As := [.int (nI 0)]) kc_9 (ctX9_formula (lx x) (wx x) a0 (nI 0) h7) kw_5_119 kw_5_116 kw_5_117 kw_5_118 kw_1_7 (by decide +kernel) rfl (by decide) (Nat.zero_le _) rfl dX9_thinnest_52 g8 (fun r10 h9 => ?_)
        show J x _ _ 55 _ [rv (zx x) r10] h9 _
        refine J_G (fun g11 => ?_)
        refine J_getI kc_8 6 (by decide) rfl rfl kw_2_151 dX9_thinnest_55 g11 ?_
        refine J_if_ne (tgt := 88) dX9_thinnest_58 rfl ?_ ?_
        · exact (jX9_thinnest_B88 x (X9_thinnest_B18 n) ih a0 a1 i2 i3 i4 i5 h9)
        · refine J_aload_n 0 dX9_thinnest_61 rv_is rfl ?_
          refine J_aload_n 1 dX9_thinnest_62 rv_is rfl ?_
          refine J_aload_n 0 dX9_thinnest_63 rv_is rfl ?_
          refine J_iconst (v := nI 0) dX9_thinnest_64 rfl ?_
          refine J_G (fun g12 => ?_)
          refine J.callV (n := 1) (As := [.int (nI 0)]) kc_9 (ctX9_formula (lx x) (wx x) a0 (nI 0) h9) kw_5_119 kw_5_116 kw_5_117 kw_5_118 kw_1_7 (by decide +kernel) rfl (by decide) (by simp [rv_cat, cat_I, cat_L, cat_S]) rfl dX9_thinnest_65 g12 (fun r14 h13 => ?_)
          show J x _ _ 68 _ [rv (zx x) r14, rv (zx x) a1, rv (zx x) a0] h13 _
          refine J_iload_n 3 dX9_thinnest_68 rfl ?_
          refine J_iconst (v := nI 1) dX9_thinnest_69 rfl ?_
          refine J_isub dX9_thinnest_70 ?_
          refine J_G (fun g15 => ?_)
          refine J.callV (n := 3) (As := [rv (zx x) a1, rv (zx x) r14, .int (i3 - (nI 1))]) kc_9 (ctX9_spoilSize (lx x) (wx x) a0 a1 r14 (i3 - (nI 1)) h13) kw_5_236 kw_5_233 kw_5_234 kw_5_235 kw_1_7 (by decide +kernel) rfl (by decide) (Nat.zero_le _) rfl dX9_thinnest_71 g15 (fun v17 h16 => ?_)
          show J x _ _ 74 _ [.int v17] h16 _
          refine J_istore dX9_thinnest_74 (by decide) (SD.a (lvr := [(0, rv (zx x) a0), (1, rv (zx x) a1), (2, .int i2), (3, .int i3), (4, .int i4), (5, .int i5)]) [0, 1, 2, 3, 4, 5] rfl rfl) ?_
          refine J_iload 0 dX9_thinnest_76 rfl ?_
          refine J_iconst (v := (-1)) dX9_thinnest_78 rfl ?_
          refine J_icmp_eq (tgt := 88) dX9_thinnest_79 rfl ?_ ?_
          · exact J_sub [1, 2, 3, 4, 5, 6] rfl (jX9_thinnest_B88 x (X9_thinnest_B18 n) ih a0 a1 i2 i3 i4 i5 h16)
          · refine J_iload 6 dX9_thinnest_82 rfl ?_
            refine J_istore_n dX9_thinnest_84 (by decide) (SD.c (lvr := [(6, .int v17), (0, rv (zx x) a0), (1, rv (zx x) a1), (4, .int i4), (5, .int i5)]) [0, 1, 2, 5, 6] rfl rfl 2 rfl rfl rv_cat) ?_
            refine J_iload 1 dX9_thinnest_85 rfl ?_
            refine J_istore_n dX9_thinnest_87 (by decide) (SD.a (lvr := [(2, .int i5), (0, rv (zx x) a0), (1, rv (zx x) a1), (4, .int i4), (5, .int i5)]) [0, 2, 3, 4, 5] rfl rfl) ?_
            exact J_sub [2, 3, 1, 0, 4, 5] rfl (jX9_thinnest_B88 x (X9_thinnest_B18 n) ih a0 a1 i5 v17 i4 i5 h16)
def X9_thinnest_f (a0 : Nat) (a1 : Nat) (h : AH) : Option (Int32 × AH) :=
  G (xc h a1 = 10) <|
  G (xc h (xR h a1 0) = 0) <|
  LT ((nI 1) <<< ((xI h (xR h a1 0) 5) &&& 31)) fun v3 =>
  X9_thinnest_B18 FU a0 a1 (-1) (nI 4) v3 (nI 0) h
theorem jX9_thinnest (x : CT) (a0 : Nat) (a1 : Nat) (h : AH) : J x qX9_thinnest ZI 0 [(0, rv (zx x) a0), (1, rv (zx x) a1)] [] h (X9_thinnest_f a0 a1 h) := by
  unfold X9_thinnest_f
  refine J_iconst (v := (-1)) dX9_thinnest_0 rfl ?_
  refine J_istore_n dX9_thinnest_1 (by decide) (SD.c (lvr := [(0, rv (zx x) a0), (1, rv (zx x) a1)]) [0, 1] rfl rfl 1 rfl rfl rv_cat) ?_
  refine J_iconst (v := nI 4) dX9_thinnest_2 rfl ?_
  refine J_istore_n dX9_thinnest_3 (by decide) (SD.a (lvr := [(2, .int ((-1))), (0, rv (zx x) a0), (1, rv (zx x) a1)]) [0, 1, 2] rfl rfl) ?_
  refine J_iconst (v := nI 1) dX9_thinnest_4 rfl ?_
  refine J_aload_n 3 dX9_thinnest_5 rv_is rfl ?_
  refine J_G (fun g1 => ?_)
  refine J_getR kc_10 0 (by decide) rfl rfl kw_2_16 dX9_thinnest_6 g1 ?_
  refine J_G (fun g2 => ?_)
  refine J_getI kc_0 5 (by decide) rfl rfl kw_1_132 dX9_thinnest_9 g2 ?_
  refine J_ishl dX9_thinnest_12 ?_
  refine J_LTi (fun v3 => ?_)
  refine J_istore dX9_thinnest_13 (by decide) (SD.a (lvr := [(3, .int (nI 4)), (2, .int ((-1))), (0, rv (zx x) a0), (1, rv (zx x) a1)]) [0, 1, 2, 3] rfl rfl) ?_
  refine J_iconst (v := nI 0) dX9_thinnest_15 rfl ?_
  refine J_istore dX9_thinnest_16 (by decide) (SD.a (lvr := [(4, .int v3), (3, .int (nI 4)), (2, .int ((-1))), (0, rv (zx x) a0), (1, rv (zx x) a1)]) [0, 1, 2, 3, 4] rfl rfl) ?_
  exact J_sub [4, 5, 3, 2, 1, 0] rfl (jX9_thinnest_B18 x FU a0 a1 (-1) (nI 4) v3 (nI 0) h)
theorem ctX9_thinnest (l : Launch) (w : WT) (a0 : Nat) (a1 : Nat) (h : AH) : CM l w yX9_thinnest cX9_thinnest 7 (some .int) 6 157 KI [rv (w.1) a0, rv (w.1) a1] h (X9_thinnest_f a0 a1 h) :=
  CM.of (by decide +kernel) (by simp [lg_sl, rv_cat, cat_I, cat_L, cat_S]) (lv := [(0, rv (w.1) a0), (1, rv (w.1) a1)]) (by simp [lv_args, rv_cat, cat_I, cat_L, cat_S]) (fun x hx => by subst hx; exact jX9_thinnest x a0 a1 h)
-- FallTrials.book(I)I
abbrev qX11_book : MT := (cX11_book, RX11, "book", (some .int), 10, 218, 4)
def X11_book_B15 (a0 : Nat) (h : AH) : Option (Int32 × AH) :=
  G (xc h a0 = 11) <|
  BN (X11_refuse_f a0 (nI 2) h) fun v3 h2 =>
  some (v3, h2)
theorem jX11_book_B15 (x : CT) (a0 : Nat) (h : AH) : J x qX11_book ZI 15 [(0, rv (zx x) a0)] [] h (X11_book_B15 a0 h) := by
  unfold X11_book_B15
  refine J_aload_n 0 dX11_book_15 rv_is rfl ?_
  refine J_iconst (v := nI 2) dX11_book_16 rfl ?_
  refine J_G (fun g1 => ?_)
  refine J.callV (n := 1) (As := [.int (nI 2)]) kc_11 (ctX11_refuse (lx x) (wx x) a0 (nI 2) h) kw_3_112 kw_3_109 kw_3_111 kp_0 kw_1_1 (by decide +kernel) rfl (by decide) (Nat.zero_le _) rfl dX11_book_17 g1 (fun v3 h2 => ?_)
  show J x _ _ 20 _ [.int v3] h2 _
  exact J_iret dX11_book_20
def X11_book_f (a0 : Nat) (i1 : Int32) (h : AH) : Option (Int32 × AH) :=
  if i1 < 0 then (
    X11_book_B15 a0 h
  ) else (
    G (xc h a0 = 11) <|
    G (xc h (xR h a0 0) = 6) <|
    if i1 ≤ (xI h (xR h a0 0) 4) then (
      G (xc h a0 = 11) <|
      G (xc h (xR h a0 0) = 6) <|
      BN (X6_read_f (xR h a0 0) i1 (xR h a0 12) h) fun v6 h5 =>
      G (xc h5 a0 = 11) <|
      G (xc h5 (xR h5 a0 0) = 6) <|
      LT (pI h5 a0 16 (xI h5 (xR h5 a0 0) 9)) fun h9 =>
      G (xc h9 a0 = 11) <|
      G (xc h9 (xR h9 a0 0) = 6) <|
      LT (pI h9 a0 17 (xI h9 (xR h9 a0 0) 6)) fun h12 =>
      if v6 = 0 then (
        G (xc h12 a0 = 11) <|
        BN (X11_refuse_f a0 (nI 4) h12) fun v39 h38 =>
        some (v39, h38)
      ) else (
        G (xc h12 a0 = 11) <|
        G (xc h12 (xR h12 a0 1) = 10) <|
        LT (xR h12 (xR h12 a0 1) 0) fun r15 =>
        BN (X10_begin_f (xR h12 a0 1) (xR h12 a0 12) h12) fun _ h16 =>
        G (xc h16 a0 = 11) <|
        LT (pR h16 a0 12 r15) fun h18 =>
        G (xc h18 a0 = 11) <|
        LT (pI h18 a0 13 (nI 1)) fun h20 =>
        G (xc h20 a0 = 11) <|
        G (xc h20 (xR h20 a0 3) = 4) <|
        BN (X4_wipe_f (xR h20 a0 3) h20) fun _ h23 =>
        G (xc h23 a0 = 11) <|
        G (xc h23 (xR h23 a0 6) = 4) <|
        BN (X4_wipe_f (xR h23 a0 6) h23) fun _ h26 =>
        G (xc h26 a0 = 11) <|
        LT (pI h26 a0 14 (nI 0)) fun h28 =>
        G (xc h28 a0 = 11) <|
        G (xc h28 (xR h28 a0 8) = 9) <|
        BN (X9_forget_f (xR h28 a0 8) h28) fun _ h31 =>
        G (xc h31 a0 = 11) <|
        G (xc h31 (xR h31 a0 1) = 10) <|
        G (xc h31 (xR h31 (xR h31 a0 1) 0) = 0) <|
        BN (X11_grant_f a0 ((xI h31 (xR h31 (xR h31 a0 1) 0) 3) + (xI h31 (xR h31 (xR h31 a0 1) 0) 4)) h31) fun v36 h35 =>
        some (v36, h35)
      )
    ) else (
      X11_book_B15 a0 h
    )
  )
theorem jX11_book (x : CT) (a0 : Nat) (i1 : Int32) (h : AH) : J x qX11_book ZI 0 [(0, rv (zx x) a0), (1, .int i1)] [] h (X11_book_f a0 i1 h) := by
  unfold X11_book_f
  refine J_iload_n 1 dX11_book_0 rfl ?_
  refine J_if_lt (tgt := 15) dX11_book_1 rfl ?_ ?_
  · exact J_sub [0] rfl (jX11_book_B15 x a0 h)
  · refine J_iload_n 1 dX11_book_4 rfl ?_
    refine J_aload_n 0 dX11_book_5 rv_is rfl ?_
    refine J_G (fun g1 => ?_)
    refine J_getR kc_11 0 (by decide) rfl rfl kw_3_42 dX11_book_6 g1 ?_
    refine J_G (fun g2 => ?_)
    refine J_getI kc_6 4 (by decide) rfl rfl kw_1_209 dX11_book_9 g2 ?_
    refine J_icmp_le (tgt := 21) dX11_book_12 rfl ?_ ?_
    · refine J_aload_n 0 dX11_book_21 rv_is rfl ?_
      refine J_G (fun g3 => ?_)
      refine J_getR kc_11 0 (by decide) rfl rfl kw_3_42 dX11_book_22 g3 ?_
      refine J_iload_n 1 dX11_book_25 rfl ?_
      refine J_aload_n 0 dX11_book_26 rv_is rfl ?_
      refine J_getR kc_11 12 (by decide) rfl rfl kw_3_54 dX11_book_27 g3 ?_
      refine J_G (fun g4 => ?_)
      refine J.callV (n := 2) (As := [.int i1, rv (zx x) (xR h a0 12)]) kc_6 (ctX6_read (lx x) (wx x) (xR h a0 0) i1 (xR h a0 12) h) kw_3_116 kw_3_113 kw_3_114 kw_3_115 kw_1_4 (by decide +kernel) rfl (by decide) (Nat.zero_le _) rfl dX11_book_30 g4 (fun v6 h5 => ?_)
      show J x _ _ 33 _ [.int v6] h5 _
      refine J_istore_n dX11_book_33 (by decide) (SD.a (lvr := [(0, rv (zx x) a0)]) [0] rfl rfl) ?_
      refine J_aload_n 1 dX11_book_34 rv_is rfl ?_
      refine J_aload_n 1 dX11_book_35 rv_is rfl ?_
      refine J_G (fun g7 => ?_)
      refine J_getR kc_11 0 (by decide) rfl rfl kw_3_42 dX11_book_36 g7 ?_
      refine J_G (fun g8 => ?_)
      refine J_getI kc_6 9 (by decide) rfl rfl kw_1_217 dX11_book_39 g8 ?_
      refine J_putI kc_11 16 (by decide) rfl rfl rfl rfl (Or.inl rfl) kw_3_58 dX11_book_42 g7 ?_
      refine J_LTh (fun h9 => ?_)
      refine J_aload_n 1 dX11_book_45 rv_is rfl ?_
      refine J_aload_n 1 dX11_book_46 rv_is rfl ?_
      refine J_G (fun g10 => ?_)
      refine J_getR kc_11 0 (by decide) rfl rfl kw_3_42 dX11_book_47 g10 ?_
      refine J_G (fun g11 => ?_)
      refine J_getI kc_6 6 (by decide) rfl rfl kw_1_212 dX11_book_50 g11 ?_
      refine J_putI kc_11 17 (by decide) rfl rfl rfl rfl (Or.inl rfl) kw_3_59 dX11_book_53 g10 ?_
      refine J_LTh (fun h12 => ?_)
      refine J_iload_n 0 dX11_book_56 rfl ?_
      refine J_if_ne (tgt := 66) dX11_book_57 rfl ?_ ?_
      · refine J_aload_n 1 dX11_book_66 rv_is rfl ?_
        refine J_G (fun g13 => ?_)
        refine J_getR kc_11 1 (by decide) rfl rfl kw_3_43 dX11_book_67 g13 ?_
        refine J_G (fun g14 => ?_)
        refine J_getR kc_10 0 (by decide) rfl rfl kw_2_13 dX11_book_70 g14 ?_
        refine J_LTr (fun r15 => ?_)
        refine J_astore_n rv_is dX11_book_73 (by decide) (SD.a (lvr := [(0, rv (zx x) a0)]) [1] rfl rfl) ?_
        refine J_aload_n 1 dX11_book_74 rv_is rfl ?_
        refine J_getR kc_11 1 (by decide) rfl rfl kw_3_43 dX11_book_75 g13 ?_
        refine J_aload_n 1 dX11_book_78 rv_is rfl ?_
        refine J_getR kc_11 12 (by decide) rfl rfl kw_3_54 dX11_book_79 g13 ?_
        refine J.callV (n := 1) (As := [rv (zx x) (xR h12 a0 12)]) kc_10 (ctX10_begin (lx x) (wx x) (xR h12 a0 1) (xR h12 a0 12) h12) kw_4_48 kw_4_45 kw_4_46 kw_4_47 kw_1_5 (by decide +kernel) rfl (by decide) (Nat.zero_le _) rfl dX11_book_82 g14 (fun _ h16 => ?_)
        show J x _ _ 85 _ [] h16 _
        refine J_aload_n 1 dX11_book_85 rv_is rfl ?_
        refine J_aload_n 0 dX11_book_86 rv_is rfl ?_
        refine J_G (fun g17 => ?_)
        refine J_putR kc_11 12 (by decide) rfl rfl (Or.inl ⟨_, rfl⟩) (Or.inl rfl) kw_3_54 dX11_book_87 g17 ?_
        refine J_LTh (fun h18 => ?_)
        refine J_aload_n 1 dX11_book_90 rv_is rfl ?_
        refine J_iconst (v := nI 1) dX11_book_91 rfl ?_
        refine J_G (fun g19 => ?_)
        refine J_putI kc_11 13 (by decide) rfl rfl rfl rfl (Or.inl rfl) kw_3_55 dX11_book_92 g19 ?_
        refine J_LTh (fun h20 => ?_)
        refine J_aload_n 1 dX11_book_95 rv_is rfl ?_
        refine J_G (fun g21 => ?_)
        refine J_getR kc_11 3 (by decide) rfl rfl kw_3_45 dX11_book_96 g21 ?_
        refine J_G (fun g22 => ?_)
        refine J.callV (n := 0) (As := []) kc_4 (ctX4_wipe (lx x) (wx x) (xR h20 a0 3) h20) kw_4_52 kw_4_49 kw_4_50 kw_4_51 kw_1_6 (by decide +kernel) rfl (by decide) (Nat.zero_le _) rfl dX11_book_99 g22 (fun _ h23 => ?_)
        show J x _ _ 102 _ [] h23 _
        refine J_aload_n 1 dX11_book_102 rv_is rfl ?_
        refine J_G (fun g24 => ?_)
        refine J_getR kc_11 6 (by decide) rfl rfl kw_3_48 dX11_book_103 g24 ?_
        refine J_G (fun g25 => ?_)
        refine J.callV (n := 0) (As := []) kc_4 (ctX4_wipe (lx x) (wx x) (xR h23 a0 6) h23) kw_4_52 kw_4_49 kw_4_50 kw_4_51 kw_1_6 (by decide +kernel) rfl (by decide) (Nat.zero_le _) rfl dX11_book_106 g25 (fun _ h26 => ?_)
        show J x _ _ 109 _ [] h26 _
        refine J_aload_n 1 dX11_book_109 rv_is rfl ?_
        refine J_iconst (v := nI 0) dX11_book_110 rfl ?_
        refine J_G (fun g27 => ?_)
        refine J_putI kc_11 14 (by decide) rfl rfl rfl rfl (Or.inl rfl) kw_3_56 dX11_book_111 g27 ?_
        refine J_LTh (fun h28 => ?_)
        refine J_aload_n 1 dX11_book_114 rv_is rfl ?_
        refine J_G (fun g29 => ?_)
        refine J_getR kc_11 8 (by decide) rfl rfl kw_3_50 dX11_book_115 g29 ?_
        refine J_G (fun g30 => ?_)
        refine J.callV (n := 0) (As := []) kc_9 (ctX9_forget (lx x) (wx x) (xR h28 a0 8) h28) kw_4_56 kw_4_53 kw_4_54 kw_4_55 kw_1_7 (by decide +kernel) rfl (by decide) (Nat.zero_le _) rfl dX11_book_118 g30 (fun _ h31 => ?_)
        show J x _ _ 121 _ [] h31 _
        refine J_aload_n 1 dX11_book_121 rv_is rfl ?_
        refine J_aload_n 1 dX11_book_122 rv_is rfl ?_
        refine J_G (fun g32 => ?_)
        refine J_getR kc_11 1 (by decide) rfl rfl kw_3_43 dX11_book_123 g32 ?_
        refine J_G (fun g33 => ?_)
        refine J_getR kc_10 0 (by decide) rfl rfl kw_2_13 dX11_book_126 g33 ?_
        refine J_G (fun g34 => ?_)
        refine J_getI kc_0 3 (by decide) rfl rfl kw_1_119 dX11_book_129 g34 ?_
        refine J_aload_n 1 dX11_book_132 rv_is rfl ?_
        refine J_getR kc_11 1 (by decide) rfl rfl kw_3_43 dX11_book_133 g32 ?_
        refine J_getR kc_10 0 (by decide) rfl rfl kw_2_13 dX11_book_136 g33 ?_
        refine J_getI kc_0 4 (by decide) rfl rfl kw_1_127 dX11_book_139 g34 ?_
        refine J_iadd dX11_book_142 ?_
        refine J.callV (n := 1) (As := [.int ((xI h31 (xR h31 (xR h31 a0 1) 0) 3) + (xI h31 (xR h31 (xR h31 a0 1) 0) 4))]) kc_11 (ctX11_grant (lx x) (wx x) a0 ((xI h31 (xR h31 (xR h31 a0 1) 0) 3) + (xI h31 (xR h31 (xR h31 a0 1) 0) 4)) h31) kw_4_65 kw_4_62 kw_4_64 kp_1 kw_1_1 (by decide +kernel) rfl (by decide) (Nat.zero_le _) rfl dX11_book_143 g32 (fun v36 h35 => ?_)
        show J x _ _ 146 _ [.int v36] h35 _
        exact J_iret dX11_book_146
      · refine J_aload_n 1 dX11_book_60 rv_is rfl ?_
        refine J_iconst (v := nI 4) dX11_book_61 rfl ?_
        refine J_G (fun g37 => ?_)
        refine J.callV (n := 1) (As := [.int (nI 4)]) kc_11 (ctX11_refuse (lx x) (wx x) a0 (nI 4) h12) kw_3_112 kw_3_109 kw_3_111 kp_0 kw_1_1 (by decide +kernel) rfl (by decide) (Nat.zero_le _) rfl dX11_book_62 g37 (fun v39 h38 => ?_)
        show J x _ _ 65 _ [.int v39] h38 _
        exact J_iret dX11_book_65
    · exact J_sub [0] rfl (jX11_book_B15 x a0 h)
theorem ctX11_book (l : Launch) (w : WT) (a0 : Nat) (i1 : Int32) (h : AH) : CM l w yX11_book cX11_book 4 (some .int) 10 218 KI [rv (w.1) a0, .int i1] h (X11_book_f a0 i1 h) :=
  CM.of (by decide +kernel) (by simp [lg_sl, rv_cat, cat_I, cat_L, cat_S]) (lv := [(0, rv (w.1) a0), (1, .int i1)]) (by simp [lv_args, rv_cat, cat_I, cat_L, cat_S]) (fun x hx => by subst hx; exact jX11_book x a0 i1 h)
