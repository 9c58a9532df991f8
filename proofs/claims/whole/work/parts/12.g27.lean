-- FallTrialsModel.readBook()V
abbrev qX15_readBook : MT := (cX15_readBook, RX15, "readBook", none, 10, 217, 1)
def X15_readBook_B151 (a0 : Nat) (h : AH) : Option ((Unit ⊕ Nat) × AH) :=
  G (xc h a0 = 15) <|
  BX (X15_readPromise_f a0 h) fun _ h2 =>
  G (xc h2 a0 = 15) <|
  if (xI h2 a0 11) = (nI 1) then (
    some (.inl (), h2)
  ) else (
    G (xc h2 a0 = 15) <|
    BN (X15_stop_f a0 (nI 1) h2) fun r6 h5 =>
    G (xc h5 r6 = 14) <|
    some (.inr r6, h5)
  )
theorem jX15_readBook_B151 (x : CT) (a0 : Nat) (h : AH) : J x qX15_readBook YV 151 [(0, rv (zx x) a0)] [] h (X15_readBook_B151 a0 h) := by
  unfold X15_readBook_B151
  refine J_aload_n 0 dX15_readBook_151 rv_is rfl ?_
  refine J_G (fun g1 => ?_)
  refine J.callVY (by decide +kernel) (n := 0) (As := []) kc_15 (ctX15_readPromise (lx x) (wx x) a0 h) kw_8_94 kw_8_91 kw_8_93 kp_22 kw_1_13 (by decide +kernel) rfl (by decide) (Nat.zero_le _) rfl dX15_readBook_152 g1 (fun _ h2 => ?_)
  show J x _ _ 155 _ [] h2 _
  refine J_aload_n 0 dX15_readBook_155 rv_is rfl ?_
  refine J_G (fun g3 => ?_)
  refine J_getI kc_15 11 (by decide) rfl rfl kw_6_221 dX15_readBook_156 g3 ?_
  refine J_iconst (v := nI 1) dX15_readBook_159 rfl ?_
  refine J_icmp_eq (tgt := 169) dX15_readBook_160 rfl ?_ ?_
  · exact J_vretY dX15_readBook_169
  · refine J_aload_n 0 dX15_readBook_163 rv_is rfl ?_
    refine J_iconst (v := nI 1) dX15_readBook_164 rfl ?_
    refine J_G (fun g4 => ?_)
    refine J.callV (n := 1) (As := [.int (nI 1)]) kc_15 (ctX15_stop (lx x) (wx x) a0 (nI 1) h2) kw_8_44 kw_8_41 kw_8_43 kp_14 kw_1_13 (by decide +kernel) rfl (by decide) (Nat.zero_le _) rfl dX15_readBook_165 g4 (fun r6 h5 => ?_)
    show J x _ _ 168 _ [rv (zx x) r6] h5 _
    refine J_G (fun g7 => ?_)
    exact J_athrow (by decide +kernel) dX15_readBook_168 g7
def X15_readBook_B138 (a0 : Nat) (h : AH) : Option ((Unit ⊕ Nat) × AH) :=
  G (xc h a0 = 15) <|
  BN (X15_stop_f a0 (nI 1) h) fun r3 h2 =>
  G (xc h2 r3 = 14) <|
  some (.inr r3, h2)
theorem jX15_readBook_B138 (x : CT) (a0 : Nat) (h : AH) : J x qX15_readBook YV 138 [(0, rv (zx x) a0)] [] h (X15_readBook_B138 a0 h) := by
  unfold X15_readBook_B138
  refine J_aload_n 0 dX15_readBook_138 rv_is rfl ?_
  refine J_iconst (v := nI 1) dX15_readBook_139 rfl ?_
  refine J_G (fun g1 => ?_)
  refine J.callV (n := 1) (As := [.int (nI 1)]) kc_15 (ctX15_stop (lx x) (wx x) a0 (nI 1) h) kw_8_44 kw_8_41 kw_8_43 kp_14 kw_1_13 (by decide +kernel) rfl (by decide) (Nat.zero_le _) rfl dX15_readBook_140 g1 (fun r3 h2 => ?_)
  show J x _ _ 143 _ [rv (zx x) r3] h2 _
  refine J_G (fun g4 => ?_)
  exact J_athrow (by decide +kernel) dX15_readBook_143 g4
def X15_readBook_B130 (k0 : (Nat → AH → Option ((Unit ⊕ Nat) × AH))) (a0 : Nat) (h : AH) : Option ((Unit ⊕ Nat) × AH) :=
  G (xc h a0 = 15) <|
  if (xI h a0 11) = (nI 3) then (
    G (xc h a0 = 15) <|
    BN (X15_next_f a0 h) fun _ h3 =>
    k0 a0 h3
  ) else (
    X15_readBook_B138 a0 h
  )
theorem jX15_readBook_B130 (x : CT) (k0 : (Nat → AH → Option ((Unit ⊕ Nat) × AH))) (hk0 : ∀ (a0 : Nat) (h : AH), J x qX15_readBook YV 0 [(0, rv (zx x) a0)] [] h (k0 a0 h)) (a0 : Nat) (h : AH) : J x qX15_readBook YV 130 [(0, rv (zx x) a0)] [] h (X15_readBook_B130 k0 a0 h) := by
  unfold X15_readBook_B130
  refine J_aload_n 0 dX15_readBook_130 rv_is rfl ?_
  refine J_G (fun g1 => ?_)
  refine J_getI kc_15 11 (by decide) rfl rfl kw_6_221 dX15_readBook_131 g1 ?_
  refine J_iconst (v := nI 3) dX15_readBook_134 rfl ?_
  refine J_icmp_eq (tgt := 144) dX15_readBook_135 rfl ?_ ?_
  · refine J_aload_n 0 dX15_readBook_144 rv_is rfl ?_
    refine J_G (fun g2 => ?_)
    refine J.callV (n := 0) (As := []) kc_15 (ctX15_next (lx x) (wx x) a0 h) kw_8_13 kw_8_10 kw_8_12 kp_9 kw_1_13 (by decide +kernel) rfl (by decide) (Nat.zero_le _) rfl dX15_readBook_145 g2 (fun _ h3 => ?_)
    show J x _ _ 148 _ [] h3 _
    refine J_goto (tgt := 0) dX15_readBook_148 rfl ?_
    exact (hk0 a0 h3)
  · exact (jX15_readBook_B138 x a0 h)
def X15_readBook_B124 (a0 : Nat) (h : AH) : Option ((Unit ⊕ Nat) × AH) :=
  G (xc h a0 = 15) <|
  BN (X15_stop_f a0 (nI 1) h) fun r3 h2 =>
  G (xc h2 r3 = 14) <|
  some (.inr r3, h2)
theorem jX15_readBook_B124 (x : CT) (a0 : Nat) (h : AH) : J x qX15_readBook YV 124 [(0, rv (zx x) a0)] [] h (X15_readBook_B124 a0 h) := by
  unfold X15_readBook_B124
  refine J_aload_n 0 dX15_readBook_124 rv_is rfl ?_
  refine J_iconst (v := nI 1) dX15_readBook_125 rfl ?_
  refine J_G (fun g1 => ?_)
  refine J.callV (n := 1) (As := [.int (nI 1)]) kc_15 (ctX15_stop (lx x) (wx x) a0 (nI 1) h) kw_8_44 kw_8_41 kw_8_43 kp_14 kw_1_13 (by decide +kernel) rfl (by decide) (Nat.zero_le _) rfl dX15_readBook_126 g1 (fun r3 h2 => ?_)
  show J x _ _ 129 _ [rv (zx x) r3] h2 _
  refine J_G (fun g4 => ?_)
  exact J_athrow (by decide +kernel) dX15_readBook_129 g4
def X15_readBook_B70 (k0 : (Nat → AH → Option ((Unit ⊕ Nat) × AH))) (a0 : Nat) (is0 : Int32) (is1 : Int32) (as2 : Nat) (h : AH) : Option ((Unit ⊕ Nat) × AH) :=
  G (xc h as2 = 15) <|
  BX (X15_readName_f as2 is1 is0 h) fun _ h2 =>
  X15_readBook_B130 k0 a0 h2
theorem jX15_readBook_B70 (x : CT) (k0 : (Nat → AH → Option ((Unit ⊕ Nat) × AH))) (hk0 : ∀ (a0 : Nat) (h : AH), J x qX15_readBook YV 0 [(0, rv (zx x) a0)] [] h (k0 a0 h)) (a0 : Nat) (is0 : Int32) (is1 : Int32) (as2 : Nat) (h : AH) : J x qX15_readBook YV 70 [(0, rv (zx x) a0)] [.int is0, .int is1, rv (zx x) as2] h (X15_readBook_B70 k0 a0 is0 is1 as2 h) := by
  unfold X15_readBook_B70
  refine J_G (fun g1 => ?_)
  refine J.callVY (by decide +kernel) (n := 2) (As := [.int is1, .int is0]) kc_15 (ctX15_readName (lx x) (wx x) as2 is1 is0 h) kw_8_40 kw_8_37 kw_8_39 kp_13 kw_1_13 (by decide +kernel) rfl (by decide) (Nat.zero_le _) rfl dX15_readBook_70 g1 (fun _ h2 => ?_)
  show J x _ _ 73 _ [] h2 _
  refine J_goto (tgt := 130) dX15_readBook_73 rfl ?_
  exact (jX15_readBook_B130 x k0 hk0 a0 h2)
def X15_readBook_B36 (k0 : (Nat → AH → Option ((Unit ⊕ Nat) × AH))) (a0 : Nat) (is0 : Int32) (is1 : Int32) (as2 : Nat) (h : AH) : Option ((Unit ⊕ Nat) × AH) :=
  G (xc h as2 = 15) <|
  BX (X15_readName_f as2 is1 is0 h) fun _ h2 =>
  X15_readBook_B130 k0 a0 h2
theorem jX15_readBook_B36 (x : CT) (k0 : (Nat → AH → Option ((Unit ⊕ Nat) × AH))) (hk0 : ∀ (a0 : Nat) (h : AH), J x qX15_readBook YV 0 [(0, rv (zx x) a0)] [] h (k0 a0 h)) (a0 : Nat) (is0 : Int32) (is1 : Int32) (as2 : Nat) (h : AH) : J x qX15_readBook YV 36 [(0, rv (zx x) a0)] [.int is0, .int is1, rv (zx x) as2] h (X15_readBook_B36 k0 a0 is0 is1 as2 h) := by
  unfold X15_readBook_B36
  refine J_G (fun g1 => ?_)
  refine J.callVY (by decide +kernel) (n := 2) (As := [.int is1, .int is0]) kc_15 (ctX15_readName (lx x) (wx x) as2 is1 is0 h) kw_8_40 kw_8_37 kw_8_39 kp_13 kw_1_13 (by decide +kernel) rfl (by decide) (Nat.zero_le _) rfl dX15_readBook_36 g1 (fun _ h2 => ?_)
  show J x _ _ 39 _ [] h2 _
  refine J_goto (tgt := 130) dX15_readBook_39 rfl ?_
  exact (jX15_readBook_B130 x k0 hk0 a0 h2)
def X15_readBook_B0 : Nat → Nat → AH → Option ((Unit ⊕ Nat) × AH)
  | 0, _, _ => none
  | n + 1, a0, h =>
    G (xc h a0 = 15) <|
    BN (X15_isWord_f a0 12 h) fun v3 h2 =>
    if v3 = 0 then (
      G (xc h2 a0 = 15) <|
      BN (X15_isWord_f a0 6 h2) fun v6 h5 =>
      if v6 = 0 then (
        G (xc h5 a0 = 15) <|
        BN (X15_isWord_f a0 13 h5) fun v9 h8 =>
        if v9 = 0 then (
          G (xc h8 a0 = 15) <|
          BN (X15_isWord_f a0 2 h8) fun v12 h11 =>
          if v12 = 0 then (
            G (xc h11 a0 = 15) <|
            BN (X15_isWord_f a0 14 h11) fun v15 h14 =>
            if v15 = 0 then (
              G (xc h14 a0 = 15) <|
              BN (X15_isWord_f a0 15 h14) fun v18 h17 =>
              if v18 = 0 then (
                X15_readBook_B124 a0 h17
              ) else (
                G (xc h17 a0 = 15) <|
                BX (X15_readSend_f a0 h17) fun _ h20 =>
                X15_readBook_B130 (X15_readBook_B0 n) a0 h20
              )
            ) else (
              G (xc h14 a0 = 15) <|
              BX (X15_readRule_f a0 h14) fun _ h22 =>
              X15_readBook_B130 (X15_readBook_B0 n) a0 h22
            )
          ) else (
            G (xc h11 a0 = 15) <|
            BX (X15_readFact_f a0 h11) fun _ h24 =>
            X15_readBook_B130 (X15_readBook_B0 n) a0 h24
          )
        ) else (
          G (xc h8 a0 = 15) <|
          G (xc h8 (xR h8 a0 5) = 12) <|
          if (xI h8 (xR h8 a0 5) 2) = (nI 10) then (
            X15_readBook_B70 (X15_readBook_B0 n) a0 (nI 1) (nI 1) a0 h8
          ) else (
            X15_readBook_B70 (X15_readBook_B0 n) a0 (nI 0) (nI 1) a0 h8
          )
        )
      ) else (
        G (xc h5 a0 = 15) <|
        G (xc h5 (xR h5 a0 5) = 12) <|
        if (xI h5 (xR h5 a0 5) 1) = (nI 4) then (
          X15_readBook_B36 (X15_readBook_B0 n) a0 (nI 1) (nI 0) a0 h5
        ) else (
          X15_readBook_B36 (X15_readBook_B0 n) a0 (nI 0) (nI 0) a0 h5
        )
      )
    ) else (
      X15_readBook_B151 a0 h2
    )
theorem jX15_readBook_B0 (x : CT) : ∀ (n : Nat) (a0 : Nat) (h : AH), J x qX15_readBook YV 0 [(0, rv (zx x) a0)] [] h (X15_readBook_B0 n a0 h) := by
  intro n
  induction n with
  | zero => intro a0 h; exact J_none
  | succ n ih =>
    intro a0 h
    unfold X15_readBook_B0
    refine J_aload_n 0 dX15_readBook_0 rv_is rfl ?_
    refine J_ldcS (i := 12) (tx := "promise") (index := 172) (by decide +kernel) dX15_readBook_1 ?_
    refine J_G (fun g1 => ?_)
    refine J.callV (n := 1) (As := [sv (wx x) 12]) kc_15 (ctX15_isWord (lx x) (wx x) a0 12 h) kw_8_30 kw_8_27 kw_8_29 kp_12 kw_1_13 (by decide +kernel) rfl (by decide) (Nat.zero_le _) rfl dX15_readBook_3 g1 (fun v3 h2 => ?_)
    show J x _ _ 6 _ [.int v3] h2 _
    refine J_if_ne (tgt := 151) dX15_readBook_6 rfl ?_ ?_
    · exact (jX15_readBook_B151 x a0 h2)
    · refine J_aload_n 0 dX15_readBook_9 rv_is rfl ?_
      refine J_ldcS (i := 6) (tx := "machine") (index := 158) (by decide +kernel) dX15_readBook_10 ?_
      refine J_G (fun g4 => ?_)
      refine J.callV (n := 1) (As := [sv (wx x) 6]) kc_15 (ctX15_isWord (lx x) (wx x) a0 6 h2) kw_8_30 kw_8_27 kw_8_29 kp_12 kw_1_13 (by decide +kernel) rfl (by decide) (Nat.zero_le _) rfl dX15_readBook_12 g4 (fun v6 h5 => ?_)
      show J x _ _ 15 _ [.int v6] h5 _
      refine J_if_eq (tgt := 42) dX15_readBook_15 rfl ?_ ?_
      · refine J_aload_n 0 dX15_readBook_42 rv_is rfl ?_
        refine J_ldcS (i := 13) (tx := "row") (index := 164) (by decide +kernel) dX15_readBook_43 ?_
        refine J_G (fun g7 => ?_)
        refine J.callV (n := 1) (As := [sv (wx x) 13]) kc_15 (ctX15_isWord (lx x) (wx x) a0 13 h5) kw_8_30 kw_8_27 kw_8_29 kp_12 kw_1_13 (by decide +kernel) rfl (by decide) (Nat.zero_le _) rfl dX15_readBook_45 g7 (fun v9 h8 => ?_)
        show J x _ _ 48 _ [.int v9] h8 _
        refine J_if_eq (tgt := 76) dX15_readBook_48 rfl ?_ ?_
        · refine J_aload_n 0 dX15_readBook_76 rv_is rfl ?_
          refine J_ldcS (i := 2) (tx := "fact") (index := 166) (by decide +kernel) dX15_readBook_77 ?_
          refine J_G (fun g10 => ?_)
          refine J.callV (n := 1) (As := [sv (wx x) 2]) kc_15 (ctX15_isWord (lx x) (wx x) a0 2 h8) kw_8_30 kw_8_27 kw_8_29 kp_12 kw_1_13 (by decide +kernel) rfl (by decide) (Nat.zero_le _) rfl dX15_readBook_79 g10 (fun v12 h11 => ?_)
          show J x _ _ 82 _ [.int v12] h11 _
          refine J_if_eq (tgt := 92) dX15_readBook_82 rfl ?_ ?_
          · refine J_aload_n 0 dX15_readBook_92 rv_is rfl ?_
            refine J_ldcS (i := 14) (tx := "rule") (index := 168) (by decide +kernel) dX15_readBook_93 ?_
            refine J_G (fun g13 => ?_)
            refine J.callV (n := 1) (As := [sv (wx x) 14]) kc_15 (ctX15_isWord (lx x) (wx x) a0 14 h11) kw_8_30 kw_8_27 kw_8_29 kp_12 kw_1_13 (by decide +kernel) rfl (by decide) (Nat.zero_le _) rfl dX15_readBook_95 g13 (fun v15 h14 => ?_)
            show J x _ _ 98 _ [.int v15] h14 _
            refine J_if_eq (tgt := 108) dX15_readBook_98 rfl ?_ ?_
            · refine J_aload_n 0 dX15_readBook_108 rv_is rfl ?_
              refine J_ldcS (i := 15) (tx := "send") (index := 170) (by decide +kernel) dX15_readBook_109 ?_
              refine J_G (fun g16 => ?_)
              refine J.callV (n := 1) (As := [sv (wx x) 15]) kc_15 (ctX15_isWord (lx x) (wx x) a0 15 h14) kw_8_30 kw_8_27 kw_8_29 kp_12 kw_1_13 (by decide +kernel) rfl (by decide) (Nat.zero_le _) rfl dX15_readBook_111 g16 (fun v18 h17 => ?_)
              show J x _ _ 114 _ [.int v18] h17 _
              refine J_if_eq (tgt := 124) dX15_readBook_114 rfl ?_ ?_
              · exact (jX15_readBook_B124 x a0 h17)
              · refine J_aload_n 0 dX15_readBook_117 rv_is rfl ?_
                refine J_G (fun g19 => ?_)
                refine J.callVY (by decide +kernel) (n := 0) (As := []) kc_15 (ctX15_readSend (lx x) (wx x) a0 h17) kw_8_89 kw_8_86 kw_8_88 kp_21 kw_1_13 (by decide +kernel) rfl (by decide) (Nat.zero_le _) rfl dX15_readBook_118 g19 (fun _ h20 => ?_)
                show J x _ _ 121 _ [] h20 _
                refine J_goto (tgt := 130) dX15_readBook_121 rfl ?_
                exact (jX15_readBook_B130 x (X15_readBook_B0 n) ih a0 h20)
            · refine J_aload_n 0 dX15_readBook_101 rv_is rfl ?_
              refine J_G (fun g21 => ?_)
              refine J.callVY (by decide +kernel) (n := 0) (As := []) kc_15 (ctX15_readRule (lx x) (wx x) a0 h14) kw_8_79 kw_8_76 kw_8_78 kp_19 kw_1_13 (by decide +kernel) rfl (by decide) (Nat.zero_le _) rfl dX15_readBook_102 g21 (fun _ h22 => ?_)
              show J x _ _ 105 _ [] h22 _
              refine J_goto (tgt := 130) dX15_readBook_105 rfl ?_
              exact (jX15_readBook_B130 x (X15_readBook_B0 n) ih a0 h22)
          · refine J_aload_n 0 dX15_readBook_85 rv_is rfl ?_
            refine J_G (fun g23 => ?_)
            refine J.callVY (by decide +kernel) (n := 0) (As := []) kc_15 (ctX15_readFact (lx x) (wx x) a0 h11) kw_8_66 kw_8_63 kw_8_65 kp_16 kw_1_13 (by decide +kernel) rfl (by decide) (Nat.zero_le _) rfl dX15_readBook_86 g23 (fun _ h24 => ?_)
            show J x _ _ 89 _ [] h24 _
            refine J_goto (tgt := 130) dX15_readBook_89 rfl ?_
            exact (jX15_readBook_B130 x (X15_readBook_B0 n) ih a0 h24)
        · refine J_aload_n 0 dX15_readBook_51 rv_is rfl ?_
          refine J_iconst (v := nI 1) dX15_readBook_52 rfl ?_
          refine J_aload_n 0 dX15_readBook_53 rv_is rfl ?_
          refine J_G (fun g25 => ?_)
          refine J_getR kc_15 5 (by decide) rfl rfl kw_6_215 dX15_readBook_54 g25 ?_
          refine J_G (fun g26 => ?_)
          refine J_getIN kc_12 2 (by decide) rfl rfl kn_26 dX15_readBook_57 g26 ?_
          refine J_bipush (v := nI 10) dX15_readBook_60 rfl ?_
          refine J_icmp_ne (tgt := 69) dX15_readBook_62 rfl ?_ ?_
          · refine J_iconst (v := nI 0) dX15_readBook_69 rfl ?_
            exact (jX15_readBook_B70 x (X15_readBook_B0 n) ih a0 (nI 0) (nI 1) a0 h8)
          · refine J_iconst (v := nI 1) dX15_readBook_65 rfl ?_
            refine J_goto (tgt := 70) dX15_readBook_66 rfl ?_
            exact (jX15_readBook_B70 x (X15_readBook_B0 n) ih a0 (nI 1) (nI 1) a0 h8)
      · refine J_aload_n 0 dX15_readBook_18 rv_is rfl ?_
        refine J_iconst (v := nI 0) dX15_readBook_19 rfl ?_
        refine J_aload_n 0 dX15_readBook_20 rv_is rfl ?_
        refine J_G (fun g27 => ?_)
        refine J_getR kc_15 5 (by decide) rfl rfl kw_6_215 dX15_readBook_21 g27 ?_
        refine J_G (fun g28 => ?_)
        refine J_getIN kc_12 1 (by decide) rfl rfl kn_25 dX15_readBook_24 g28 ?_
        refine J_iconst (v := nI 4) dX15_readBook_27 rfl ?_
        refine J_icmp_ne (tgt := 35) dX15_readBook_28 rfl ?_ ?_
        · refine J_iconst (v := nI 0) dX15_readBook_35 rfl ?_
          exact (jX15_readBook_B36 x (X15_readBook_B0 n) ih a0 (nI 0) (nI 0) a0 h5)
        · refine J_iconst (v := nI 1) dX15_readBook_31 rfl ?_
          refine J_goto (tgt := 36) dX15_readBook_32 rfl ?_
          exact (jX15_readBook_B36 x (X15_readBook_B0 n) ih a0 (nI 1) (nI 0) a0 h5)
def X15_readBook_f (a0 : Nat) (h : AH) : Option ((Unit ⊕ Nat) × AH) :=
  X15_readBook_B0 FU a0 h
theorem jX15_readBook (x : CT) (a0 : Nat) (h : AH) : J x qX15_readBook YV 0 [(0, rv (zx x) a0)] [] h (X15_readBook_f a0 h) := by
  unfold X15_readBook_f
  exact (jX15_readBook_B0 x FU a0 h)
theorem ctX15_readBook (l : Launch) (w : WT) (a0 : Nat) (h : AH) : CX l w yX15_readBook cX15_readBook 1 none 10 217 KV [rv (w.1) a0] h (X15_readBook_f a0 h) :=
  CX.of (by decide +kernel) (by simp [lg_sl, rv_cat, cat_I, cat_L, cat_S]) (lv := [(0, rv (w.1) a0)]) (by simp [lv_args, rv_cat, cat_I, cat_L, cat_S]) (fun x hx => by subst hx; exact jX15_readBook x a0 h)
-- FallTrialsModel.goes(I)V
abbrev qX15_goes : MT := (cX15_goes, RX15, "goes", none, 4, 96, 4)
def X15_goes_B213 (k115 : (Nat → Int32 → Int32 → AH → Option (Unit × AH))) (a0 : Nat) (i1 : Int32) (i2 : Int32) (h : AH) : Option (Unit × AH) :=
  LT (i2 + nI 1) fun v1 =>
  k115 a0 i1 v1 h
theorem jX15_goes_B213 (x : CT) (k115 : (Nat → Int32 → Int32 → AH → Option (Unit × AH))) (hk115 : ∀ (a0 : Nat) (i1 : Int32) (i2 : Int32) (h : AH), J x qX15_goes ZV 115 [(0, rv (zx x) a0), (1, .int i1), (2, .int i2)] [] h (k115 a0 i1 i2 h)) (a0 : Nat) (i1 : Int32) (i2 : Int32) (h : AH) : J x qX15_goes ZV 213 [(0, rv (zx x) a0), (1, .int i1), (2, .int i2)] [] h (X15_goes_B213 k115 a0 i1 i2 h) := by
  unfold X15_goes_B213
  refine J_iincL (u := i2 + nI 1) 2 dX15_goes_213 rfl rfl (by decide) (SD.a (lvr := [(0, rv (zx x) a0), (1, .int i1)]) [0, 1] rfl rfl) (fun v1 => ?_)
  refine J_goto (tgt := 115) dX15_goes_216 rfl ?_
  exact J_sub [1, 2, 0] rfl (hk115 a0 i1 v1 h)
def X15_goes_B181 (k115 : (Nat → Int32 → Int32 → AH → Option (Unit × AH))) : Nat → Nat → Int32 → Int32 → Int32 → AH → Option (Unit × AH)
  | 0, _, _, _, _, _ => none
  | n + 1, a0, i1, i2, i3, h =>
    G (xc h a0 = 15) <|
    G (xc h (xR h a0 4) = 12) <|
    if (xI h (xR h a0 4) 6) ≤ i3 then (
      X15_goes_B213 k115 a0 i1 i2 h
    ) else (
      G (xc h a0 = 15) <|
      if (xI h a0 14) ≤ i2 then (
        X15_goes_B213 k115 a0 i1 i2 h
      ) else (
        G (xc h a0 = 15) <|
        BN (X15_sends_f a0 i1 i3 i2 h) fun _ h5 =>
        LT (i3 + nI 1) fun v6 =>
        X15_goes_B181 k115 n a0 i1 i2 v6 h5
      )
    )
theorem jX15_goes_B181 (x : CT) (k115 : (Nat → Int32 → Int32 → AH → Option (Unit × AH))) (hk115 : ∀ (a0 : Nat) (i1 : Int32) (i2 : Int32) (h : AH), J x qX15_goes ZV 115 [(0, rv (zx x) a0), (1, .int i1), (2, .int i2)] [] h (k115 a0 i1 i2 h)) : ∀ (n : Nat) (a0 : Nat) (i1 : Int32) (i2 : Int32) (i3 : Int32) (h : AH), J x qX15_goes ZV 181 [(0, rv (zx x) a0), (1, .int i1), (2, .int i2), (3, .int i3)] [] h (X15_goes_B181 k115 n a0 i1 i2 i3 h) := by
  intro n
  induction n with
  | zero => intro a0 i1 i2 i3 h; exact J_none
  | succ n ih =>
    intro a0 i1 i2 i3 h
    unfold X15_goes_B181
    refine J_iload_n 3 dX15_goes_181 rfl ?_
    refine J_aload_n 0 dX15_goes_182 rv_is rfl ?_
    refine J_G (fun g1 => ?_)
    refine J_getR kc_15 4 (by decide) rfl rfl kw_6_214 dX15_goes_183 g1 ?_
    refine J_G (fun g2 => ?_)
    refine J_getIN kc_12 6 (by decide) rfl rfl kn_30 dX15_goes_186 g2 ?_
    refine J_icmp_ge (tgt := 213) dX15_goes_189 rfl ?_ ?_
    · exact J_sub [0, 1, 2] rfl (jX15_goes_B213 x k115 hk115 a0 i1 i2 h)
    · refine J_iload_n 2 dX15_goes_192 rfl ?_
      refine J_aload_n 0 dX15_goes_193 rv_is rfl ?_
      refine J_G (fun g3 => ?_)
      refine J_getI kc_15 14 (by decide) rfl rfl kw_6_224 dX15_goes_194 g3 ?_
      refine J_icmp_ge (tgt := 213) dX15_goes_197 rfl ?_ ?_
      · exact J_sub [0, 1, 2] rfl (jX15_goes_B213 x k115 hk115 a0 i1 i2 h)
      · refine J_aload_n 0 dX15_goes_200 rv_is rfl ?_
        refine J_iload_n 1 dX15_goes_201 rfl ?_
        refine J_iload_n 3 dX15_goes_202 rfl ?_
        refine J_iload_n 2 dX15_goes_203 rfl ?_
        refine J_G (fun g4 => ?_)
        refine J.callV (n := 3) (As := [.int i1, .int i3, .int i2]) kc_15 (ctX15_sends (lx x) (wx x) a0 i1 i3 i2 h) kw_8_205 kw_8_202 kw_8_204 kp_40 kw_1_13 (by decide +kernel) rfl (by decide) (Nat.zero_le _) rfl dX15_goes_204 g4 (fun _ h5 => ?_)
        show J x _ _ 207 _ [] h5 _
        refine J_iincL (u := i3 + nI 1) 3 dX15_goes_207 rfl rfl (by decide) (SD.a (lvr := [(0, rv (zx x) a0), (1, .int i1), (2, .int i2)]) [0, 1, 2] rfl rfl) (fun v6 => ?_)
        refine J_goto (tgt := 181) dX15_goes_210 rfl ?_
        exact J_sub [1, 2, 3, 0] rfl (ih a0 i1 i2 v6 h5)
def X15_goes_B179 (k115 : (Nat → Int32 → Int32 → AH → Option (Unit × AH))) (a0 : Nat) (i1 : Int32) (i2 : Int32) (h : AH) : Option (Unit × AH) :=
  X15_goes_B181 k115 FU a0 i1 i2 (nI 0) h
theorem jX15_goes_B179 (x : CT) (k115 : (Nat → Int32 → Int32 → AH → Option (Unit × AH))) (hk115 : ∀ (a0 : Nat) (i1 : Int32) (i2 : Int32) (h : AH), J x qX15_goes ZV 115 [(0, rv (zx x) a0), (1, .int i1), (2, .int i2)] [] h (k115 a0 i1 i2 h)) (a0 : Nat) (i1 : Int32) (i2 : Int32) (h : AH) : J x qX15_goes ZV 179 [(0, rv (zx x) a0), (1, .int i1), (2, .int i2)] [] h (X15_goes_B179 k115 a0 i1 i2 h) := by
  unfold X15_goes_B179
  refine J_iconst (v := nI 0) dX15_goes_179 rfl ?_
  refine J_istore_n dX15_goes_180 (by decide) (SD.a (lvr := [(0, rv (zx x) a0), (1, .int i1), (2, .int i2)]) [0, 1, 2] rfl rfl) ?_
  exact J_sub [1, 2, 3, 0] rfl (jX15_goes_B181 x k115 hk115 FU a0 i1 i2 (nI 0) h)
def X15_goes_B173 (k115 : (Nat → Int32 → Int32 → AH → Option (Unit × AH))) (k125 : (Nat → Int32 → Int32 → Int32 → AH → Option (Unit × AH))) (a0 : Nat) (i1 : Int32) (i2 : Int32) (i3 : Int32) (h : AH) : Option (Unit × AH) :=
  LT (i3 + nI 1) fun v1 =>
  k125 a0 i1 i2 v1 h
theorem jX15_goes_B173 (x : CT) (k115 : (Nat → Int32 → Int32 → AH → Option (Unit × AH))) (hk115 : ∀ (a0 : Nat) (i1 : Int32) (i2 : Int32) (h : AH), J x qX15_goes ZV 115 [(0, rv (zx x) a0), (1, .int i1), (2, .int i2)] [] h (k115 a0 i1 i2 h)) (k125 : (Nat → Int32 → Int32 → Int32 → AH → Option (Unit × AH))) (hk125 : ∀ (a0 : Nat) (i1 : Int32) (i2 : Int32) (i3 : Int32) (h : AH), J x qX15_goes ZV 125 [(0, rv (zx x) a0), (1, .int i1), (2, .int i2), (3, .int i3)] [] h (k125 a0 i1 i2 i3 h)) (a0 : Nat) (i1 : Int32) (i2 : Int32) (i3 : Int32) (h : AH) : J x qX15_goes ZV 173 [(0, rv (zx x) a0), (1, .int i1), (2, .int i2), (3, .int i3)] [] h (X15_goes_B173 k115 k125 a0 i1 i2 i3 h) := by
  unfold X15_goes_B173
  refine J_iincL (u := i3 + nI 1) 3 dX15_goes_173 rfl rfl (by decide) (SD.a (lvr := [(0, rv (zx x) a0), (1, .int i1), (2, .int i2)]) [0, 1, 2] rfl rfl) (fun v1 => ?_)
  refine J_goto (tgt := 125) dX15_goes_176 rfl ?_
  exact J_sub [1, 2, 3, 0] rfl (hk125 a0 i1 i2 v1 h)
def X15_goes_B125 (k115 : (Nat → Int32 → Int32 → AH → Option (Unit × AH))) : Nat → Nat → Int32 → Int32 → Int32 → AH → Option (Unit × AH)
  | 0, _, _, _, _, _ => none
  | n + 1, a0, i1, i2, i3, h =>
    G (xc h a0 = 15) <|
    G (xc h (xR h a0 4) = 12) <|
    if (xI h (xR h a0 4) 1) ≤ i3 then (
      X15_goes_B179 k115 a0 i1 i2 h
    ) else (
      G (xc h a0 = 15) <|
      BN (X15_isDown_f a0 i1 i2 i3 h) fun v5 h4 =>
      if v5 = 0 then (
        G (xc h4 a0 = 15) <|
        BN (X15_comesAt_f a0 i1 i2 i3 h4) fun v8 h7 =>
        G (xc h7 a0 = 15) <|
        BN (X15_closed_f a0 v8 i3 h7) fun v11 h10 =>
        G (xc h10 (xR h4 a0 28) = 16) <|
        G (gx ((((nI 28) * i1) + ((nI 4) * i2)) + i3) (xz h10 (xR h4 a0 28))) <|
        LT (pI h10 (xR h4 a0 28) ((((nI 28) * i1) + ((nI 4) * i2)) + i3).toNatClampNeg v11) fun h14 =>
        X15_goes_B173 k115 (X15_goes_B125 k115 n) a0 i1 i2 i3 h14
      ) else (
        X15_goes_B173 k115 (X15_goes_B125 k115 n) a0 i1 i2 i3 h4
      )
    )
theorem jX15_goes_B125 (x : CT) (k115 : (Nat → Int32 → Int32 → AH → Option (Unit × AH))) (hk115 : ∀ (a0 : Nat) (i1 : Int32) (i2 : Int32) (h : AH), J x qX15_goes ZV 115 [(0, rv (zx x) a0), (1, .int i1), (2, .int i2)] [] h (k115 a0 i1 i2 h)) : ∀ (n : Nat) (a0 : Nat) (i1 : Int32) (i2 : Int32) (i3 : Int32) (h : AH), J x qX15_goes ZV 125 [(0, rv (zx x) a0), (1, .int i1), (2, .int i2), (3, .int i3)] [] h (X15_goes_B125 k115 n a0 i1 i2 i3 h) := by
  intro n
  induction n with
  | zero => intro a0 i1 i2 i3 h; exact J_none
  | succ n ih =>
    intro a0 i1 i2 i3 h
    unfold X15_goes_B125
    refine J_iload_n 3 dX15_goes_125 rfl ?_
    refine J_aload_n 0 dX15_goes_126 rv_is rfl ?_
    refine J_G (fun g1 => ?_)
    refine J_getR kc_15 4 (by decide) rfl rfl kw_6_214 dX15_goes_127 g1 ?_
    refine J_G (fun g2 => ?_)
    refine J_getIN kc_12 1 (by decide) rfl rfl kn_25 dX15_goes_130 g2 ?_
    refine J_icmp_ge (tgt := 179) dX15_goes_133 rfl ?_ ?_
    · exact J_sub [0, 1, 2] rfl (jX15_goes_B179 x k115 hk115 a0 i1 i2 h)
    · refine J_aload_n 0 dX15_goes_136 rv_is rfl ?_
      refine J_iload_n 1 dX15_goes_137 rfl ?_
      refine J_iload_n 2 dX15_goes_138 rfl ?_
      refine J_iload_n 3 dX15_goes_139 rfl ?_
      refine J_G (fun g3 => ?_)
      refine J.callV (n := 3) (As := [.int i1, .int i2, .int i3]) kc_15 (ctX15_isDown (lx x) (wx x) a0 i1 i2 i3 h) kw_8_166 kw_8_163 kw_8_165 kp_31 kw_1_13 (by decide +kernel) rfl (by decide) (Nat.zero_le _) rfl dX15_goes_140 g3 (fun v5 h4 => ?_)
      show J x _ _ 143 _ [.int v5] h4 _
      refine J_if_ne (tgt := 173) dX15_goes_143 rfl ?_ ?_
      · exact (jX15_goes_B173 x k115 hk115 (X15_goes_B125 k115 n) ih a0 i1 i2 i3 h4)
      · refine J_aload_n 0 dX15_goes_146 rv_is rfl ?_
        refine J_G (fun g6 => ?_)
        refine J_getR kc_15 28 (by decide) rfl rfl kw_6_238 dX15_goes_147 g6 ?_
        refine J_bipush (v := nI 28) dX15_goes_150 rfl ?_
        refine J_iload_n 1 dX15_goes_152 rfl ?_
        refine J_imul dX15_goes_153 ?_
        refine J_iconst (v := nI 4) dX15_goes_154 rfl ?_
        refine J_iload_n 2 dX15_goes_155 rfl ?_
        refine J_imul dX15_goes_156 ?_
        refine J_iadd dX15_goes_157 ?_
        refine J_iload_n 3 dX15_goes_158 rfl ?_
        refine J_iadd dX15_goes_159 ?_
        refine J_aload_n 0 dX15_goes_160 rv_is rfl ?_
        refine J_aload_n 0 dX15_goes_161 rv_is rfl ?_
        refine J_iload_n 1 dX15_goes_162 rfl ?_
        refine J_iload_n 2 dX15_goes_163 rfl ?_
        refine J_iload_n 3 dX15_goes_164 rfl ?_
        refine J.callV (n := 3) (As := [.int i1, .int i2, .int i3]) kc_15 (ctX15_comesAt (lx x) (wx x) a0 i1 i2 i3 h4) kw_8_170 kw_8_167 kw_8_169 kp_32 kw_1_13 (by decide +kernel) rfl (by decide) (by simp [rv_cat, cat_I, cat_L, cat_S]) rfl dX15_goes_165 g6 (fun v8 h7 => ?_)
        show J x _ _ 168 _ [.int v8, rv (zx x) a0, .int ((((nI 28) * i1) + ((nI 4) * i2)) + i3), rv (zx x) (xR h4 a0 28)] h7 _
        refine J_iload_n 3 dX15_goes_168 rfl ?_
        refine J_G (fun g9 => ?_)
        refine J.callV (n := 2) (As := [.int v8, .int i3]) kc_15 (ctX15_closed (lx x) (wx x) a0 v8 i3 h7) kw_8_201 kw_8_198 kw_8_200 kp_39 kw_1_13 (by decide +kernel) rfl (by decide) (by simp [rv_cat, cat_I, cat_L, cat_S]) rfl dX15_goes_169 g9 (fun v11 h10 => ?_)
        show J x _ _ 172 _ [.int v11, .int ((((nI 28) * i1) + ((nI 4) * i2)) + i3), rv (zx x) (xR h4 a0 28)] h10 _
        refine J_G (fun g12 => ?_)
        refine J_G (fun g13 => ?_)
        refine J_iast dX15_goes_172 g12 g13 ?_
        refine J_LTh (fun h14 => ?_)
        exact (jX15_goes_B173 x k115 hk115 (X15_goes_B125 k115 n) ih a0 i1 i2 i3 h14)
def X15_goes_B115 : Nat → Nat → Int32 → Int32 → AH → Option (Unit × AH)
  | 0, _, _, _, _ => none
  | n + 1, a0, i1, i2, h =>
    G (xc h a0 = 15) <|
    if (xI h a0 14) < i2 then (
      some ((), h)
    ) else (
      X15_goes_B125 (X15_goes_B115 n) FU a0 i1 i2 (nI 0) h
    )
theorem jX15_goes_B115 (x : CT) : ∀ (n : Nat) (a0 : Nat) (i1 : Int32) (i2 : Int32) (h : AH), J x qX15_goes ZV 115 [(0, rv (zx x) a0), (1, .int i1), (2, .int i2)] [] h (X15_goes_B115 n a0 i1 i2 h) := by
  intro n
  induction n with
  | zero => intro a0 i1 i2 h; exact J_none
  | succ n ih =>
    intro a0 i1 i2 h
    unfold X15_goes_B115
    refine J_iload_n 2 dX15_goes_115 rfl ?_
    refine J_aload_n 0 dX15_goes_116 rv_is rfl ?_
    refine J_G (fun g1 => ?_)
    refine J_getI kc_15 14 (by decide) rfl rfl kw_6_224 dX15_goes_117 g1 ?_
    refine J_icmp_gt (tgt := 219) dX15_goes_120 rfl ?_ ?_
    · exact J_vret dX15_goes_219
    · refine J_iconst (v := nI 0) dX15_goes_123 rfl ?_
      refine J_istore_n dX15_goes_124 (by decide) (SD.a (lvr := [(0, rv (zx x) a0), (1, .int i1), (2, .int i2)]) [0, 1, 2] rfl rfl) ?_
      exact J_sub [1, 2, 3, 0] rfl (jX15_goes_B125 x (X15_goes_B115 n) ih FU a0 i1 i2 (nI 0) h)
def X15_goes_B113 (a0 : Nat) (i1 : Int32) (h : AH) : Option (Unit × AH) :=
  X15_goes_B115 FU a0 i1 (nI 0) h
theorem jX15_goes_B113 (x : CT) (a0 : Nat) (i1 : Int32) (h : AH) : J x qX15_goes ZV 113 [(0, rv (zx x) a0), (1, .int i1)] [] h (X15_goes_B113 a0 i1 h) := by
  unfold X15_goes_B113
  refine J_iconst (v := nI 0) dX15_goes_113 rfl ?_
  refine J_istore_n dX15_goes_114 (by decide) (SD.a (lvr := [(0, rv (zx x) a0), (1, .int i1)]) [0, 1] rfl rfl) ?_
  exact J_sub [1, 2, 0] rfl (jX15_goes_B115 x FU a0 i1 (nI 0) h)
def X15_goes_B65 : Nat → Nat → Int32 → Int32 → AH → Option (Unit × AH)
  | 0, _, _, _, _ => none
  | n + 1, a0, i1, i2, h =>
    if (nI 42) ≤ i2 then (
      X15_goes_B113 a0 i1 h
    ) else (
      G (xc h a0 = 15) <|
      G (xc h (xR h a0 30) = 16) <|
      G (gx (((nI 42) * i1) + i2) (xz h (xR h a0 30))) <|
      LT (pI h (xR h a0 30) (((nI 42) * i1) + i2).toNatClampNeg (-1)) fun h4 =>
      G (xc h4 a0 = 15) <|
      G (xc h4 (xR h4 a0 31) = 16) <|
      G (gx (((nI 42) * i1) + i2) (xz h4 (xR h4 a0 31))) <|
      LT (pI h4 (xR h4 a0 31) (((nI 42) * i1) + i2).toNatClampNeg (nI 0)) fun h8 =>
      G (xc h8 a0 = 15) <|
      G (xc h8 (xR h8 a0 32) = 19) <|
      G (gx (((nI 42) * i1) + i2) (xz h8 (xR h8 a0 32))) <|
      LT (pI h8 (xR h8 a0 32) (((nI 42) * i1) + i2).toNatClampNeg (vp_nar .boolean (nI 0))) fun h12 =>
      LT (i2 + nI 1) fun v13 =>
      X15_goes_B65 n a0 i1 v13 h12
    )
theorem jX15_goes_B65 (x : CT) : ∀ (n : Nat) (a0 : Nat) (i1 : Int32) (i2 : Int32) (h : AH), J x qX15_goes ZV 65 [(0, rv (zx x) a0), (1, .int i1), (2, .int i2)] [] h (X15_goes_B65 n a0 i1 i2 h) := by
  intro n
  induction n with
  | zero => intro a0 i1 i2 h; exact J_none
  | succ n ih =>
    intro a0 i1 i2 h
    unfold X15_goes_B65
    refine J_iload_n 2 dX15_goes_65 rfl ?_
    refine J_bipush (v := nI 42) dX15_goes_66 rfl ?_
    refine J_icmp_ge (tgt := 113) dX15_goes_68 rfl ?_ ?_
    · exact J_sub [0, 1] rfl (jX15_goes_B113 x a0 i1 h)
    · refine J_aload_n 0 dX15_goes_71 rv_is rfl ?_
      refine J_G (fun g1 => ?_)
      refine J_getR kc_15 30 (by decide) rfl rfl kw_7_0 dX15_goes_72 g1 ?_
      refine J_bipush (v := nI 42) dX15_goes_75 rfl ?_
      refine J_iload_n 1 dX15_goes_77 rfl ?_
      refine J_imul dX15_goes_78 ?_
      refine J_iload_n 2 dX15_goes_79 rfl ?_
      refine J_iadd dX15_goes_80 ?_
      refine J_iconst (v := (-1)) dX15_goes_81 rfl ?_
      refine J_G (fun g2 => ?_)
      refine J_G (fun g3 => ?_)
      refine J_iast dX15_goes_82 g2 g3 ?_
      refine J_LTh (fun h4 => ?_)
      refine J_aload_n 0 dX15_goes_83 rv_is rfl ?_
      refine J_G (fun g5 => ?_)
      refine J_getR kc_15 31 (by decide) rfl rfl kw_7_1 dX15_goes_84 g5 ?_
      refine J_bipush (v := nI 42) dX15_goes_87 rfl ?_
      refine J_iload_n 1 dX15_goes_89 rfl ?_
      refine J_imul dX15_goes_90 ?_
      refine J_iload_n 2 dX15_goes_91 rfl ?_
      refine J_iadd dX15_goes_92 ?_
      refine J_iconst (v := nI 0) dX15_goes_93 rfl ?_
      refine J_G (fun g6 => ?_)
      refine J_G (fun g7 => ?_)
      refine J_iast dX15_goes_94 g6 g7 ?_
      refine J_LTh (fun h8 => ?_)
      refine J_aload_n 0 dX15_goes_95 rv_is rfl ?_
      refine J_G (fun g9 => ?_)
      refine J_getR kc_15 32 (by decide) rfl rfl kw_7_2 dX15_goes_96 g9 ?_
      refine J_bipush (v := nI 42) dX15_goes_99 rfl ?_
      refine J_iload_n 1 dX15_goes_101 rfl ?_
      refine J_imul dX15_goes_102 ?_
      refine J_iload_n 2 dX15_goes_103 rfl ?_
      refine J_iadd dX15_goes_104 ?_
      refine J_iconst (v := nI 0) dX15_goes_105 rfl ?_
      refine J_G (fun g10 => ?_)
      refine J_G (fun g11 => ?_)
      refine J_zast dX15_goes_106 g10 g11 ?_
      refine J_LTh (fun h12 => ?_)
      refine J_iincL (u := i2 + nI 1) 2 dX15_goes_107 rfl rfl (by decide) (SD.a (lvr := [(0, rv (zx x) a0), (1, .int i1)]) [0, 1] rfl rfl) (fun v13 => ?_)
      refine J_goto (tgt := 65) dX15_goes_110 rfl ?_
      exact J_sub [1, 2, 0] rfl (ih a0 i1 v13 h12)
def X15_goes_B63 (a0 : Nat) (i1 : Int32) (h : AH) : Option (Unit × AH) :=
  X15_goes_B65 FU a0 i1 (nI 0) h
theorem jX15_goes_B63 (x : CT) (a0 : Nat) (i1 : Int32) (h : AH) : J x qX15_goes ZV 63 [(0, rv (zx x) a0), (1, .int i1)] [] h (X15_goes_B63 a0 i1 h) := by
  unfold X15_goes_B63
  refine J_iconst (v := nI 0) dX15_goes_63 rfl ?_
  refine J_istore_n dX15_goes_64 (by decide) (SD.a (lvr := [(0, rv (zx x) a0), (1, .int i1)]) [0, 1] rfl rfl) ?_
  exact J_sub [1, 2, 0] rfl (jX15_goes_B65 x FU a0 i1 (nI 0) h)
def X15_goes_B57 (k2 : (Nat → Int32 → Int32 → AH → Option (Unit × AH))) (a0 : Nat) (i1 : Int32) (i2 : Int32) (h : AH) : Option (Unit × AH) :=
  LT (i2 + nI 1) fun v1 =>
  k2 a0 i1 v1 h
theorem jX15_goes_B57 (x : CT) (k2 : (Nat → Int32 → Int32 → AH → Option (Unit × AH))) (hk2 : ∀ (a0 : Nat) (i1 : Int32) (i2 : Int32) (h : AH), J x qX15_goes ZV 2 [(0, rv (zx x) a0), (1, .int i1), (2, .int i2)] [] h (k2 a0 i1 i2 h)) (a0 : Nat) (i1 : Int32) (i2 : Int32) (h : AH) : J x qX15_goes ZV 57 [(0, rv (zx x) a0), (1, .int i1), (2, .int i2)] [] h (X15_goes_B57 k2 a0 i1 i2 h) := by
  unfold X15_goes_B57
  refine J_iincL (u := i2 + nI 1) 2 dX15_goes_57 rfl rfl (by decide) (SD.a (lvr := [(0, rv (zx x) a0), (1, .int i1)]) [0, 1] rfl rfl) (fun v1 => ?_)
  refine J_goto (tgt := 2) dX15_goes_60 rfl ?_
  exact J_sub [1, 2, 0] rfl (hk2 a0 i1 v1 h)
def X15_goes_B30 (k2 : (Nat → Int32 → Int32 → AH → Option (Unit × AH))) : Nat → Nat → Int32 → Int32 → Int32 → AH → Option (Unit × AH)
  | 0, _, _, _, _, _ => none
  | n + 1, a0, i1, i2, i3, h =>
    if (nI 4) ≤ i3 then (
      X15_goes_B57 k2 a0 i1 i2 h
    ) else (
      G (xc h a0 = 15) <|
      G (xc h (xR h a0 28) = 16) <|
      G (gx ((((nI 28) * i1) + ((nI 4) * i2)) + i3) (xz h (xR h a0 28))) <|
      LT (pI h (xR h a0 28) ((((nI 28) * i1) + ((nI 4) * i2)) + i3).toNatClampNeg (nI 0)) fun h4 =>
      LT (i3 + nI 1) fun v5 =>
      X15_goes_B30 k2 n a0 i1 i2 v5 h4
    )
theorem jX15_goes_B30 (x : CT) (k2 : (Nat → Int32 → Int32 → AH → Option (Unit × AH))) (hk2 : ∀ (a0 : Nat) (i1 : Int32) (i2 : Int32) (h : AH), J x qX15_goes ZV 2 [(0, rv (zx x) a0), (1, .int i1), (2, .int i2)] [] h (k2 a0 i1 i2 h)) : ∀ (n : Nat) (a0 : Nat) (i1 : Int32) (i2 : Int32) (i3 : Int32) (h : AH), J x qX15_goes ZV 30 [(0, rv (zx x) a0), (1, .int i1), (2, .int i2), (3, .int i3)] [] h (X15_goes_B30 k2 n a0 i1 i2 i3 h) := by
  intro n
  induction n with
  | zero => intro a0 i1 i2 i3 h; exact J_none
  | succ n ih =>
    intro a0 i1 i2 i3 h
    unfold X15_goes_B30
    refine J_iload_n 3 dX15_goes_30 rfl ?_
    refine J_iconst (v := nI 4) dX15_goes_31 rfl ?_
    refine J_icmp_ge (tgt := 57) dX15_goes_32 rfl ?_ ?_
    · exact J_sub [0, 1, 2] rfl (jX15_goes_B57 x k2 hk2 a0 i1 i2 h)
    · refine J_aload_n 0 dX15_goes_35 rv_is rfl ?_
      refine J_G (fun g1 => ?_)
      refine J_getR kc_15 28 (by decide) rfl rfl kw_6_238 dX15_goes_36 g1 ?_
      refine J_bipush (v := nI 28) dX15_goes_39 rfl ?_
      refine J_iload_n 1 dX15_goes_41 rfl ?_
      refine J_imul dX15_goes_42 ?_
      refine J_iconst (v := nI 4) dX15_goes_43 rfl ?_
      refine J_iload_n 2 dX15_goes_44 rfl ?_
      refine J_imul dX15_goes_45 ?_
      refine J_iadd dX15_goes_46 ?_
      refine J_iload_n 3 dX15_goes_47 rfl ?_
      refine J_iadd dX15_goes_48 ?_
      refine J_iconst (v := nI 0) dX15_goes_49 rfl ?_
      refine J_G (fun g2 => ?_)
      refine J_G (fun g3 => ?_)
      refine J_iast dX15_goes_50 g2 g3 ?_
      refine J_LTh (fun h4 => ?_)
      refine J_iincL (u := i3 + nI 1) 3 dX15_goes_51 rfl rfl (by decide) (SD.a (lvr := [(0, rv (zx x) a0), (1, .int i1), (2, .int i2)]) [0, 1, 2] rfl rfl) (fun v5 => ?_)
      refine J_goto (tgt := 30) dX15_goes_54 rfl ?_
      exact J_sub [1, 2, 3, 0] rfl (ih a0 i1 i2 v5 h4)
def X15_goes_B2 : Nat → Nat → Int32 → Int32 → AH → Option (Unit × AH)
  | 0, _, _, _, _ => none
  | n + 1, a0, i1, i2, h =>
    if (nI 7) ≤ i2 then (
      X15_goes_B63 a0 i1 h
    ) else (
      G (xc h a0 = 15) <|
      G (xc h (xR h a0 26) = 13) <|
      G (xc h (xR h (xR h a0 26) 2) = 16) <|
      G (gx i2 (xz h (xR h (xR h a0 26) 2))) <|
      G (xc h (xR h a0 29) = 16) <|
      G (gx (((nI 7) * i1) + i2) (xz h (xR h a0 29))) <|
      LT (pI h (xR h a0 29) (((nI 7) * i1) + i2).toNatClampNeg (xI h (xR h (xR h a0 26) 2) i2.toNatClampNeg)) fun h7 =>
      X15_goes_B30 (X15_goes_B2 n) FU a0 i1 i2 (nI 0) h7
    )
theorem jX15_goes_B2 (x : CT) : ∀ (n : Nat) (a0 : Nat) (i1 : Int32) (i2 : Int32) (h : AH), J x qX15_goes ZV 2 [(0, rv (zx x) a0), (1, .int i1), (2, .int i2)] [] h (X15_goes_B2 n a0 i1 i2 h) := by
  intro n
  induction n with
  | zero => intro a0 i1 i2 h; exact J_none
  | succ n ih =>
    intro a0 i1 i2 h
    unfold X15_goes_B2
    refine J_iload_n 2 dX15_goes_2 rfl ?_
    refine J_bipush (v := nI 7) dX15_goes_3 rfl ?_
    refine J_icmp_ge (tgt := 63) dX15_goes_5 rfl ?_ ?_
    · exact J_sub [0, 1] rfl (jX15_goes_B63 x a0 i1 h)
    · refine J_aload_n 0 dX15_goes_8 rv_is rfl ?_
      refine J_G (fun g1 => ?_)
      refine J_getR kc_15 29 (by decide) rfl rfl kw_6_239 dX15_goes_9 g1 ?_
      refine J_bipush (v := nI 7) dX15_goes_12 rfl ?_
      refine J_iload_n 1 dX15_goes_14 rfl ?_
      refine J_imul dX15_goes_15 ?_
      refine J_iload_n 2 dX15_goes_16 rfl ?_
      refine J_iadd dX15_goes_17 ?_
      refine J_aload_n 0 dX15_goes_18 rv_is rfl ?_
      refine J_getR kc_15 26 (by decide) rfl rfl kw_6_236 dX15_goes_19 g1 ?_
      refine J_G (fun g2 => ?_)
      refine J_getRN kc_13 2 (by decide) rfl rfl kn_22 dX15_goes_22 g2 ?_
      refine J_iload_n 2 dX15_goes_25 rfl ?_
      refine J_G (fun g3 => ?_)
      refine J_G (fun g4 => ?_)
      refine J_iald dX15_goes_26 g3 g4 ?_
      refine J_G (fun g5 => ?_)
      refine J_G (fun g6 => ?_)
      refine J_iast dX15_goes_27 g5 g6 ?_
      refine J_LTh (fun h7 => ?_)
      refine J_iconst (v := nI 0) dX15_goes_28 rfl ?_
      refine J_istore_n dX15_goes_29 (by decide) (SD.a (lvr := [(0, rv (zx x) a0), (1, .int i1), (2, .int i2)]) [0, 1, 2] rfl rfl) ?_
      exact J_sub [1, 2, 3, 0] rfl (jX15_goes_B30 x (X15_goes_B2 n) ih FU a0 i1 i2 (nI 0) h7)
def X15_goes_f (a0 : Nat) (i1 : Int32) (h : AH) : Option (Unit × AH) :=
  X15_goes_B2 FU a0 i1 (nI 0) h
theorem jX15_goes (x : CT) (a0 : Nat) (i1 : Int32) (h : AH) : J x qX15_goes ZV 0 [(0, rv (zx x) a0), (1, .int i1)] [] h (X15_goes_f a0 i1 h) := by
  unfold X15_goes_f
  refine J_iconst (v := nI 0) dX15_goes_0 rfl ?_
  refine J_istore_n dX15_goes_1 (by decide) (SD.a (lvr := [(0, rv (zx x) a0), (1, .int i1)]) [0, 1] rfl rfl) ?_
  exact J_sub [1, 2, 0] rfl (jX15_goes_B2 x FU a0 i1 (nI 0) h)
theorem ctX15_goes (l : Launch) (w : WT) (a0 : Nat) (i1 : Int32) (h : AH) : CM l w yX15_goes cX15_goes 4 none 4 96 KV [rv (w.1) a0, .int i1] h (X15_goes_f a0 i1 h) :=
  CM.of (by decide +kernel) (by simp [lg_sl, rv_cat, cat_I, cat_L, cat_S]) (lv := [(0, rv (w.1) a0), (1, .int i1)]) (by simp [lv_args, rv_cat, cat_I, cat_L, cat_S]) (fun x hx => by subst hx; exact jX15_goes x a0 i1 h)
-- FallTrialsModel.isSpoilt(I)Z
abbrev qX15_isSpoilt : MT := (cX15_isSpoilt, RX15, "isSpoilt", (some .boolean), 4, 95, 3)
def X15_isSpoilt_B86 (k7 : (Nat → Int32 → Int32 → AH → Option (Int32 × AH))) (a0 : Nat) (i1 : Int32) (i2 : Int32) (h : AH) : Option (Int32 × AH) :=
  LT (i2 + nI 1) fun v1 =>
  k7 a0 i1 v1 h
theorem jX15_isSpoilt_B86 (x : CT) (k7 : (Nat → Int32 → Int32 → AH → Option (Int32 × AH))) (hk7 : ∀ (a0 : Nat) (i1 : Int32) (i2 : Int32) (h : AH), J x qX15_isSpoilt ZI 7 [(0, rv (zx x) a0), (1, .int i1), (2, .int i2)] [] h (k7 a0 i1 i2 h)) (a0 : Nat) (i1 : Int32) (i2 : Int32) (h : AH) : J x qX15_isSpoilt ZI 86 [(0, rv (zx x) a0), (1, .int i1), (2, .int i2)] [] h (X15_isSpoilt_B86 k7 a0 i1 i2 h) := by
  unfold X15_isSpoilt_B86
  refine J_iincL (u := i2 + nI 1) 2 dX15_isSpoilt_86 rfl rfl (by decide) (SD.a (lvr := [(0, rv (zx x) a0), (1, .int i1)]) [0, 1] rfl rfl) (fun v1 => ?_)
  refine J_goto (tgt := 7) dX15_isSpoilt_89 rfl ?_
  exact J_sub [1, 2, 0] rfl (hk7 a0 i1 v1 h)
def X15_isSpoilt_B7 : Nat → Nat → Int32 → Int32 → AH → Option (Int32 × AH)
  | 0, _, _, _, _ => none
  | n + 1, a0, i1, i2, h =>
    G (xc h a0 = 15) <|
    G (xc h (xR h a0 4) = 12) <|
    if (xI h (xR h a0 4) 23) ≤ i2 then (
      some (nI 1, h)
    ) else (
      G (xc h a0 = 15) <|
      G (xc h (xR h a0 4) = 12) <|
      G (xc h (xR h (xR h a0 4) 26) = 16) <|
      G (gx i2 (xz h (xR h (xR h a0 4) 26))) <|
      G (xc h (xR h (xR h a0 4) 27) = 16) <|
      G (gx i2 (xz h (xR h (xR h a0 4) 27))) <|
      BN (X15_isThere_f a0 i1 (xI h (xR h (xR h a0 4) 26) i2.toNatClampNeg) (xI h (xR h (xR h a0 4) 27) i2.toNatClampNeg) (xI h a0 14) h) fun v10 h9 =>
      if v10 = 0 then (
        X15_isSpoilt_B86 (X15_isSpoilt_B7 n) a0 i1 i2 h9
      ) else (
        G (xc h9 a0 = 15) <|
        G (xc h9 (xR h9 a0 4) = 12) <|
        G (xc h9 (xR h9 (xR h9 a0 4) 27) = 16) <|
        G (gx i2 (xz h9 (xR h9 (xR h9 a0 4) 27))) <|
        G (xc h9 (xR h9 a0 35) = 16) <|
        G (gx (((nI 4) * (xI h9 a0 14)) + (xI h9 (xR h9 (xR h9 a0 4) 27) i2.toNatClampNeg)) (xz h9 (xR h9 a0 35))) <|
        G (xc h9 (xR h9 (xR h9 a0 4) 26) = 16) <|
        G (gx i2 (xz h9 (xR h9 (xR h9 a0 4) 26))) <|
        BN (X15_has_f (xI h9 (xR h9 a0 35) (((nI 4) * (xI h9 a0 14)) + (xI h9 (xR h9 (xR h9 a0 4) 27) i2.toNatClampNeg)).toNatClampNeg) (xI h9 (xR h9 (xR h9 a0 4) 26) i2.toNatClampNeg) h9) fun v20 h19 =>
        if v20 = 0 then (
          X15_isSpoilt_B86 (X15_isSpoilt_B7 n) a0 i1 i2 h19
        ) else (
          some (nI 0, h19)
        )
      )
    )
theorem jX15_isSpoilt_B7 (x : CT) : ∀ (n : Nat) (a0 : Nat) (i1 : Int32) (i2 : Int32) (h : AH), J x qX15_isSpoilt ZI 7 [(0, rv (zx x) a0), (1, .int i1), (2, .int i2)] [] h (X15_isSpoilt_B7 n a0 i1 i2 h) := by
  intro n
  induction n with
  | zero => intro a0 i1 i2 h; exact J_none
  | succ n ih =>
    intro a0 i1 i2 h
    unfold X15_isSpoilt_B7
    refine J_iload_n 2 dX15_isSpoilt_7 rfl ?_
    refine J_aload_n 0 dX15_isSpoilt_8 rv_is rfl ?_
    refine J_G (fun g1 => ?_)
    refine J_getR kc_15 4 (by decide) rfl rfl kw_6_214 dX15_isSpoilt_9 g1 ?_
    refine J_G (fun g2 => ?_)
    refine J_getIN kc_12 23 (by decide) rfl rfl kn_47 dX15_isSpoilt_12 g2 ?_
    refine J_icmp_ge (tgt := 92) dX15_isSpoilt_15 rfl ?_ ?_
    · refine J_iconst (v := nI 1) dX15_isSpoilt_92 rfl ?_
      exact J_zret dX15_isSpoilt_93 (by decide)
    · refine J_aload_n 0 dX15_isSpoilt_18 rv_is rfl ?_
      refine J_iload_n 1 dX15_isSpoilt_19 rfl ?_
      refine J_aload_n 0 dX15_isSpoilt_20 rv_is rfl ?_
      refine J_G (fun g3 => ?_)
      refine J_getR kc_15 4 (by decide) rfl rfl kw_6_214 dX15_isSpoilt_21 g3 ?_
      refine J_G (fun g4 => ?_)
      refine J_getRN kc_12 26 (by decide) rfl rfl kn_50 dX15_isSpoilt_24 g4 ?_
      refine J_iload_n 2 dX15_isSpoilt_27 rfl ?_
      refine J_G (fun g5 => ?_)
      refine J_G (fun g6 => ?_)
      refine J_iald dX15_isSpoilt_28 g5 g6 ?_
      refine J_aload_n 0 dX15_isSpoilt_29 rv_is rfl ?_
      refine J_getR kc_15 4 (by decide) rfl rfl kw_6_214 dX15_isSpoilt_30 g3 ?_
      refine J_getRN kc_12 27 (by decide) rfl rfl kn_51 dX15_isSpoilt_33 g4 ?_
      refine J_iload_n 2 dX15_isSpoilt_36 rfl ?_
      refine J_G (fun g7 => ?_)
      refine J_G (fun g8 => ?_)
      refine J_iald dX15_isSpoilt_37 g7 g8 ?_
      refine J_aload_n 0 dX15_isSpoilt_38 rv_is rfl ?_
      refine J_getI kc_15 14 (by decide) rfl rfl kw_6_224 dX15_isSpoilt_39 g3 ?_
      refine J.callV (n := 4) (As := [.int i1, .int (xI h (xR h (xR h a0 4) 26) i2.toNatClampNeg), .int (xI h (xR h (xR h a0 4) 27) i2.toNatClampNeg), .int (xI h a0 14)]) kc_15 (ctX15_isThere (lx x) (wx x) a0 i1 (xI h (xR h (xR h a0 4) 26) i2.toNatClampNeg) (xI h (xR h (xR h a0 4) 27) i2.toNatClampNeg) (xI h a0 14) h) kw_8_213 kw_8_210 kw_8_212 kp_42 kw_1_13 (by decide +kernel) rfl (by decide) (Nat.zero_le _) rfl dX15_isSpoilt_42 g3 (fun v10 h9 => ?_)
      show J x _ _ 45 _ [.int v10] h9 _
      refine J_if_eq (tgt := 86) dX15_isSpoilt_45 rfl ?_ ?_
      · exact (jX15_isSpoilt_B86 x (X15_isSpoilt_B7 n) ih a0 i1 i2 h9)
      · refine J_aload_n 0 dX15_isSpoilt_48 rv_is rfl ?_
        refine J_G (fun g11 => ?_)
        refine J_getR kc_15 35 (by decide) rfl rfl kw_7_5 dX15_isSpoilt_49 g11 ?_
        refine J_iconst (v := nI 4) dX15_isSpoilt_52 rfl ?_
        refine J_aload_n 0 dX15_isSpoilt_53 rv_is rfl ?_
        refine J_getI kc_15 14 (by decide) rfl rfl kw_6_224 dX15_isSpoilt_54 g11 ?_
        refine J_imul dX15_isSpoilt_57 ?_
        refine J_aload_n 0 dX15_isSpoilt_58 rv_is rfl ?_
        refine J_getR kc_15 4 (by decide) rfl rfl kw_6_214 dX15_isSpoilt_59 g11 ?_
        refine J_G (fun g12 => ?_)
        refine J_getRN kc_12 27 (by decide) rfl rfl kn_51 dX15_isSpoilt_62 g12 ?_
        refine J_iload_n 2 dX15_isSpoilt_65 rfl ?_
        refine J_G (fun g13 => ?_)
        refine J_G (fun g14 => ?_)
        refine J_iald dX15_isSpoilt_66 g13 g14 ?_
        refine J_iadd dX15_isSpoilt_67 ?_
        refine J_G (fun g15 => ?_)
        refine J_G (fun g16 => ?_)
        refine J_iald dX15_isSpoilt_68 g15 g16 ?_
        refine J_aload_n 0 dX15_isSpoilt_69 rv_is rfl ?_
        refine J_getR kc_15 4 (by decide) rfl rfl kw_6_214 dX15_isSpoilt_70 g11 ?_
        refine J_getRN kc_12 26 (by decide) rfl rfl kn_50 dX15_isSpoilt_73 g12 ?_
        refine J_iload_n 2 dX15_isSpoilt_76 rfl ?_
        refine J_G (fun g17 => ?_)
        refine J_G (fun g18 => ?_)
        refine J_iald dX15_isSpoilt_77 g17 g18 ?_
        refine J.callS (n := 2) (As := [.int (xI h9 (xR h9 a0 35) (((nI 4) * (xI h9 a0 14)) + (xI h9 (xR h9 (xR h9 a0 4) 27) i2.toNatClampNeg)).toNatClampNeg), .int (xI h9 (xR h9 (xR h9 a0 4) 26) i2.toNatClampNeg)]) (ctX15_has (lx x) (wx x) (xI h9 (xR h9 a0 35) (((nI 4) * (xI h9 a0 14)) + (xI h9 (xR h9 (xR h9 a0 4) 27) i2.toNatClampNeg)).toNatClampNeg) (xI h9 (xR h9 (xR h9 a0 4) 26) i2.toNatClampNeg) h9) kw_8_177 kw_8_175 kw_8_176 kw_1_13 (by decide +kernel) rfl (by decide) (Nat.zero_le _) rfl dX15_isSpoilt_78 (fun v20 h19 => ?_)
        show J x _ _ 81 _ [.int v20] h19 _
        refine J_if_eq (tgt := 86) dX15_isSpoilt_81 rfl ?_ ?_
        · exact (jX15_isSpoilt_B86 x (X15_isSpoilt_B7 n) ih a0 i1 i2 h19)
        · refine J_iconst (v := nI 0) dX15_isSpoilt_84 rfl ?_
          exact J_zret dX15_isSpoilt_85 (by decide)
def X15_isSpoilt_f (a0 : Nat) (i1 : Int32) (h : AH) : Option (Int32 × AH) :=
  G (xc h a0 = 15) <|
  BN (X15_puts_f a0 i1 h) fun _ h2 =>
  X15_isSpoilt_B7 FU a0 i1 (nI 0) h2
theorem jX15_isSpoilt (x : CT) (a0 : Nat) (i1 : Int32) (h : AH) : J x qX15_isSpoilt ZI 0 [(0, rv (zx x) a0), (1, .int i1)] [] h (X15_isSpoilt_f a0 i1 h) := by
  unfold X15_isSpoilt_f
  refine J_aload_n 0 dX15_isSpoilt_0 rv_is rfl ?_
  refine J_iload_n 1 dX15_isSpoilt_1 rfl ?_
  refine J_G (fun g1 => ?_)
  refine J.callV (n := 1) (As := [.int i1]) kc_15 (ctX15_puts (lx x) (wx x) a0 i1 h) kw_9_25 kw_9_22 kw_9_24 kp_49 kw_1_13 (by decide +kernel) rfl (by decide) (Nat.zero_le _) rfl dX15_isSpoilt_2 g1 (fun _ h2 => ?_)
  show J x _ _ 5 _ [] h2 _
  refine J_iconst (v := nI 0) dX15_isSpoilt_5 rfl ?_
  refine J_istore_n dX15_isSpoilt_6 (by decide) (SD.a (lvr := [(0, rv (zx x) a0), (1, .int i1)]) [0, 1] rfl rfl) ?_
  exact J_sub [1, 2, 0] rfl (jX15_isSpoilt_B7 x FU a0 i1 (nI 0) h2)
theorem ctX15_isSpoilt (l : Launch) (w : WT) (a0 : Nat) (i1 : Int32) (h : AH) : CM l w yX15_isSpoilt cX15_isSpoilt 3 (some .boolean) 4 95 KI [rv (w.1) a0, .int i1] h (X15_isSpoilt_f a0 i1 h) :=
  CM.of (by decide +kernel) (by simp [lg_sl, rv_cat, cat_I, cat_L, cat_S]) (lv := [(0, rv (w.1) a0), (1, .int i1)]) (by simp [lv_args, rv_cat, cat_I, cat_L, cat_S]) (fun x hx => by subst hx; exact jX15_isSpoilt x a0 i1 h)
-- FallTrialsModel.thinOf(I)I
abbrev qX15_thinOf : MT := (cX15_thinOf, RX15, "thinOf", (some .int), 5, 117, 4)
def X15_thinOf_B49 (k2 : (Nat → Int32 → Int32 → AH → Option (Int32 × AH))) (a0 : Nat) (i1 : Int32) (i2 : Int32) (h : AH) : Option (Int32 × AH) :=
  LT (i2 + nI 1) fun v1 =>
  k2 a0 i1 v1 h
theorem jX15_thinOf_B49 (x : CT) (k2 : (Nat → Int32 → Int32 → AH → Option (Int32 × AH))) (hk2 : ∀ (a0 : Nat) (i1 : Int32) (i2 : Int32) (h : AH), J x qX15_thinOf ZI 2 [(0, rv (zx x) a0), (1, .int i1), (2, .int i2)] [] h (k2 a0 i1 i2 h)) (a0 : Nat) (i1 : Int32) (i2 : Int32) (h : AH) : J x qX15_thinOf ZI 49 [(0, rv (zx x) a0), (1, .int i1), (2, .int i2)] [] h (X15_thinOf_B49 k2 a0 i1 i2 h) := by
  unfold X15_thinOf_B49
  refine J_iincL (u := i2 + nI 1) 2 dX15_thinOf_49 rfl rfl (by decide) (SD.a (lvr := [(0, rv (zx x) a0), (1, .int i1)]) [0, 1] rfl rfl) (fun v1 => ?_)
  refine J_goto (tgt := 2) dX15_thinOf_52 rfl ?_
  exact J_sub [1, 2, 0] rfl (hk2 a0 i1 v1 h)
def X15_thinOf_B13 (k2 : (Nat → Int32 → Int32 → AH → Option (Int32 × AH))) : Nat → Nat → Int32 → Int32 → Int32 → AH → Option (Int32 × AH)
  | 0, _, _, _, _, _ => none
  | n + 1, a0, i1, i2, i3, h =>
    if i3 = 0 then (
      X15_thinOf_B49 k2 a0 i1 i2 h
    ) else (
      G (xc h a0 = 15) <|
      G (xc h (xR h a0 27) = 13) <|
      BN (X13_lay_f (xR h a0 27) (xR h a0 39) (nI 0) i2 h) fun _ h3 =>
      G (xc h3 a0 = 15) <|
      BN (X15_isSpoilt_f a0 (nI 1) h3) fun v6 h5 =>
      if v6 = 0 then (
        G (xc h5 a0 = 15) <|
        BN (X15_goesOn_f a0 i2 h5) fun v9 h8 =>
        X15_thinOf_B13 k2 n a0 i1 i2 v9 h8
      ) else (
        some (i2, h5)
      )
    )
theorem jX15_thinOf_B13 (x : CT) (k2 : (Nat → Int32 → Int32 → AH → Option (Int32 × AH))) (hk2 : ∀ (a0 : Nat) (i1 : Int32) (i2 : Int32) (h : AH), J x qX15_thinOf ZI 2 [(0, rv (zx x) a0), (1, .int i1), (2, .int i2)] [] h (k2 a0 i1 i2 h)) : ∀ (n : Nat) (a0 : Nat) (i1 : Int32) (i2 : Int32) (i3 : Int32) (h : AH), J x qX15_thinOf ZI 13 [(0, rv (zx x) a0), (1, .int i1), (2, .int i2), (3, .int i3)] [] h (X15_thinOf_B13 k2 n a0 i1 i2 i3 h) := by
  intro n
  induction n with
  | zero => intro a0 i1 i2 i3 h; exact J_none
  | succ n ih =>
    intro a0 i1 i2 i3 h
    unfold X15_thinOf_B13
    refine J_iload_n 3 dX15_thinOf_13 rfl ?_
    refine J_if_eq (tgt := 49) dX15_thinOf_14 rfl ?_ ?_
    · exact J_sub [0, 1, 2] rfl (jX15_thinOf_B49 x k2 hk2 a0 i1 i2 h)
    · refine J_aload_n 0 dX15_thinOf_17 rv_is rfl ?_
      refine J_G (fun g1 => ?_)
      refine J_getR kc_15 27 (by decide) rfl rfl kw_6_237 dX15_thinOf_18 g1 ?_
      refine J_aload_n 0 dX15_thinOf_21 rv_is rfl ?_
      refine J_getR kc_15 39 (by decide) rfl rfl kw_7_9 dX15_thinOf_22 g1 ?_
      refine J_iconst (v := nI 0) dX15_thinOf_25 rfl ?_
      refine J_iload_n 2 dX15_thinOf_26 rfl ?_
      refine J_G (fun g2 => ?_)
      refine J.callV (n := 3) (As := [rv (zx x) (xR h a0 39), .int (nI 0), .int i2]) kc_13 (ctX13_lay (lx x) (wx x) (xR h a0 27) (xR h a0 39) (nI 0) i2 h) kw_8_158 kw_8_155 kw_8_156 kw_8_157 kw_1_18 (by decide +kernel) rfl (by decide) (Nat.zero_le _) rfl dX15_thinOf_27 g2 (fun _ h3 => ?_)
      show J x _ _ 30 _ [] h3 _
      refine J_aload_n 0 dX15_thinOf_30 rv_is rfl ?_
      refine J_iconst (v := nI 1) dX15_thinOf_31 rfl ?_
      refine J_G (fun g4 => ?_)
      refine J.callV (n := 1) (As := [.int (nI 1)]) kc_15 (ctX15_isSpoilt (lx x) (wx x) a0 (nI 1) h3) kw_9_21 kw_9_18 kw_9_20 kp_48 kw_1_13 (by decide +kernel) rfl (by decide) (Nat.zero_le _) rfl dX15_thinOf_32 g4 (fun v6 h5 => ?_)
      show J x _ _ 35 _ [.int v6] h5 _
      refine J_if_eq (tgt := 40) dX15_thinOf_35 rfl ?_ ?_
      · refine J_aload_n 0 dX15_thinOf_40 rv_is rfl ?_
        refine J_iload_n 2 dX15_thinOf_41 rfl ?_
        refine J_G (fun g7 => ?_)
        refine J.callV (n := 1) (As := [.int i2]) kc_15 (ctX15_goesOn (lx x) (wx x) a0 i2 h5) kw_9_65 kw_9_62 kw_9_64 kp_56 kw_1_13 (by decide +kernel) rfl (by decide) (Nat.zero_le _) rfl dX15_thinOf_42 g7 (fun v9 h8 => ?_)
        show J x _ _ 45 _ [.int v9] h8 _
        refine J_istore_n dX15_thinOf_45 (by decide) (SD.a (lvr := [(0, rv (zx x) a0), (1, .int i1), (2, .int i2)]) [0, 1, 2] rfl rfl) ?_
        refine J_goto (tgt := 13) dX15_thinOf_46 rfl ?_
        exact J_sub [1, 2, 3, 0] rfl (ih a0 i1 i2 v9 h8)
      · refine J_iload_n 2 dX15_thinOf_38 rfl ?_
        exact J_iret dX15_thinOf_39
def X15_thinOf_B2 : Nat → Nat → Int32 → Int32 → AH → Option (Int32 × AH)
  | 0, _, _, _, _ => none
  | n + 1, a0, i1, i2, h =>
    if i1 ≤ i2 then (
      some (i1, h)
    ) else (
      G (xc h a0 = 15) <|
      BN (X15_begins_f a0 i2 h) fun v3 h2 =>
      X15_thinOf_B13 (X15_thinOf_B2 n) FU a0 i1 i2 v3 h2
    )
theorem jX15_thinOf_B2 (x : CT) : ∀ (n : Nat) (a0 : Nat) (i1 : Int32) (i2 : Int32) (h : AH), J x qX15_thinOf ZI 2 [(0, rv (zx x) a0), (1, .int i1), (2, .int i2)] [] h (X15_thinOf_B2 n a0 i1 i2 h) := by
  intro n
  induction n with
  | zero => intro a0 i1 i2 h; exact J_none
  | succ n ih =>
    intro a0 i1 i2 h
    unfold X15_thinOf_B2
    refine J_iload_n 2 dX15_thinOf_2 rfl ?_
    refine J_iload_n 1 dX15_thinOf_3 rfl ?_
    refine J_icmp_ge (tgt := 55) dX15_thinOf_4 rfl ?_ ?_
    · refine J_iload_n 1 dX15_thinOf_55 rfl ?_
      exact J_iret dX15_thinOf_56
    · refine J_aload_n 0 dX15_thinOf_7 rv_is rfl ?_
      refine J_iload_n 2 dX15_thinOf_8 rfl ?_
      refine J_G (fun g1 => ?_)
      refine J.callV (n := 1) (As := [.int i2]) kc_15 (ctX15_begins (lx x) (wx x) a0 i2 h) kw_9_57 kw_9_54 kw_9_56 kp_54 kw_1_13 (by decide +kernel) rfl (by decide) (Nat.zero_le _) rfl dX15_thinOf_9 g1 (fun v3 h2 => ?_)
      show J x _ _ 12 _ [.int v3] h2 _
      refine J_istore_n dX15_thinOf_12 (by decide) (SD.a (lvr := [(0, rv (zx x) a0), (1, .int i1), (2, .int i2)]) [0, 1, 2] rfl rfl) ?_
      exact J_sub [1, 2, 3, 0] rfl (jX15_thinOf_B13 x (X15_thinOf_B2 n) ih FU a0 i1 i2 v3 h2)
def X15_thinOf_f (a0 : Nat) (i1 : Int32) (h : AH) : Option (Int32 × AH) :=
  X15_thinOf_B2 FU a0 i1 (nI 1) h
theorem jX15_thinOf (x : CT) (a0 : Nat) (i1 : Int32) (h : AH) : J x qX15_thinOf ZI 0 [(0, rv (zx x) a0), (1, .int i1)] [] h (X15_thinOf_f a0 i1 h) := by
  unfold X15_thinOf_f
  refine J_iconst (v := nI 1) dX15_thinOf_0 rfl ?_
  refine J_istore_n dX15_thinOf_1 (by decide) (SD.a (lvr := [(0, rv (zx x) a0), (1, .int i1)]) [0, 1] rfl rfl) ?_
  exact J_sub [1, 2, 0] rfl (jX15_thinOf_B2 x FU a0 i1 (nI 1) h)
theorem ctX15_thinOf (l : Launch) (w : WT) (a0 : Nat) (i1 : Int32) (h : AH) : CM l w yX15_thinOf cX15_thinOf 4 (some .int) 5 117 KI [rv (w.1) a0, .int i1] h (X15_thinOf_f a0 i1 h) :=
  CM.of (by decide +kernel) (by simp [lg_sl, rv_cat, cat_I, cat_L, cat_S]) (lv := [(0, rv (w.1) a0), (1, .int i1)]) (by simp [lv_args, rv_cat, cat_I, cat_L, cat_S]) (fun x hx => by subst hx; exact jX15_thinOf x a0 i1 h)
-- FallTrialsLaw.reason(LFallTrials;IIII[J)I
abbrev qL_reason : MT := (cL_reason, RL, "reason", (some .int), 7, 159, 7)
def L_reason_f (a0 : Nat) (i1 : Int32) (i2 : Int32) (i3 : Int32) (i4 : Int32) (a5 : Nat) (h : AH) : Option (Int32 × AH) :=
  G (xc h a0 = 11) <|
  BC 99 (X11_reason_f a0 i1 i2 i3 i4 h) (fun v3 h2 =>
    G (xc h2 a5 = 17) <|
    G (gx (nI 0) (xz h2 a5)) <|
    LT (pL h2 a5 (nI 0).toNatClampNeg (v3.toInt64)) fun h9 =>
    some (nI 0, h9)
  ) (fun a4 h5 =>
    some (nI 1, h5)
  )
theorem jL_reason (x : CT) (a0 : Nat) (i1 : Int32) (i2 : Int32) (i3 : Int32) (i4 : Int32) (a5 : Nat) (h : AH) : J x qL_reason ZI 0 [(0, rv (zx x) a0), (1, .int i1), (2, .int i2), (3, .int i3), (4, .int i4), (5, rv (zx x) a5)] [] h (L_reason_f a0 i1 i2 i3 i4 a5 h) := by
  unfold L_reason_f
  refine J_aload 5 dL_reason_0 rv_is rfl ?_
  refine J_iconst (v := nI 0) dL_reason_2 rfl ?_
  refine J_aload_n 0 dL_reason_3 rv_is rfl ?_
  refine J_iload_n 1 dL_reason_4 rfl ?_
  refine J_iload_n 2 dL_reason_5 rfl ?_
  refine J_iload_n 3 dL_reason_6 rfl ?_
  refine J_iload 4 dL_reason_7 rfl ?_
  refine J_G (fun g1 => ?_)
  refine J.callVC (s0 := 0) (e0 := 14) (hp := 17) (ct := 13) (by decide +kernel) (by decide) (by decide) (En := NSE) kw_6_60 (by decide +kernel) gk_nse (n := 4) (As := [.int i1, .int i2, .int i3, .int i4]) kc_11 (ctX11_reason (lx x) (wx x) a0 i1 i2 i3 i4 h) kw_6_64 kw_6_61 kw_6_62 kw_6_63 kw_1_1 (by decide +kernel) rfl (by decide) (by simp [rv_cat, cat_I, cat_L, cat_S]) rfl dL_reason_9 g1 (fun v3 h2 => ?_) (fun a4 h5 g6 => ?_)
  · show J x _ _ 12 _ [.int v3, .int (nI 0), rv (zx x) a5] h2 _
    refine J_i2l dL_reason_12 ?_
    refine J_G (fun g7 => ?_)
    refine J_G (fun g8 => ?_)
    refine J_last dL_reason_13 g7 g8 ?_
    refine J_LTh (fun h9 => ?_)
    refine J_goto (tgt := 21) dL_reason_14 rfl ?_
    refine J_iconst (v := nI 0) dL_reason_21 rfl ?_
    exact J_iret dL_reason_22
  · refine J_astore rv_is dL_reason_17 (by decide) (SD.a (lvr := []) [] rfl rfl) ?_
    refine J_iconst (v := nI 1) dL_reason_19 rfl ?_
    exact J_iret dL_reason_20
theorem ctL_reason (l : Launch) (w : WT) (a0 : Nat) (i1 : Int32) (i2 : Int32) (i3 : Int32) (i4 : Int32) (a5 : Nat) (h : AH) : CH l w yL_reason cL_reason 7 (some .int) [(0, 14, 17, 13)] 7 159 KI [rv (w.1) a0, .int i1, .int i2, .int i3, .int i4, rv (w.1) a5] h (L_reason_f a0 i1 i2 i3 i4 a5 h) :=
  CH.of (by decide +kernel) (by simp [lg_sl, rv_cat, cat_I, cat_L, cat_S]) (lv := [(0, rv (w.1) a0), (1, .int i1), (2, .int i2), (3, .int i3), (4, .int i4), (5, rv (w.1) a5)]) (by simp [lv_args, rv_cat, cat_I, cat_L, cat_S]) (fun x hx => by subst hx; exact jL_reason x a0 i1 i2 i3 i4 a5 h)
-- FallTrialsLaw.led(LFallTrials;I[J)I
abbrev qL_led : MT := (cL_led, RL, "led", (some .int), 7, 156, 4)
def L_led_f (a0 : Nat) (i1 : Int32) (a2 : Nat) (h : AH) : Option (Int32 × AH) :=
  G (xc h a0 = 11) <|
  BC 99 (X11_led_f a0 i1 h) (fun v3 h2 =>
    G (xc h2 a2 = 17) <|
    G (gx (nI 0) (xz h2 a2)) <|
    LT (pL h2 a2 (nI 0).toNatClampNeg (v3.toInt64)) fun h9 =>
    some (nI 0, h9)
  ) (fun a4 h5 =>
    some (nI 1, h5)
  )
theorem jL_led (x : CT) (a0 : Nat) (i1 : Int32) (a2 : Nat) (h : AH) : J x qL_led ZI 0 [(0, rv (zx x) a0), (1, .int i1), (2, rv (zx x) a2)] [] h (L_led_f a0 i1 a2 h) := by
  unfold L_led_f
  refine J_aload_n 2 dL_led_0 rv_is rfl ?_
  refine J_iconst (v := nI 0) dL_led_1 rfl ?_
  refine J_aload_n 0 dL_led_2 rv_is rfl ?_
  refine J_iload_n 1 dL_led_3 rfl ?_
  refine J_G (fun g1 => ?_)
  refine J.callVC (s0 := 0) (e0 := 9) (hp := 12) (ct := 13) (by decide +kernel) (by decide) (by decide) (En := NSE) kw_6_60 (by decide +kernel) gk_nse (n := 1) (As := [.int i1]) kc_11 (ctX11_led (lx x) (wx x) a0 i1 h) kw_6_134 kw_6_131 kw_6_132 kw_6_133 kw_1_1 (by decide +kernel) rfl (by decide) (by simp [rv_cat, cat_I, cat_L, cat_S]) rfl dL_led_4 g1 (fun v3 h2 => ?_) (fun a4 h5 g6 => ?_)
  · show J x _ _ 7 _ [.int v3, .int (nI 0), rv (zx x) a2] h2 _
    refine J_i2l dL_led_7 ?_
    refine J_G (fun g7 => ?_)
    refine J_G (fun g8 => ?_)
    refine J_last dL_led_8 g7 g8 ?_
    refine J_LTh (fun h9 => ?_)
    refine J_goto (tgt := 15) dL_led_9 rfl ?_
    refine J_iconst (v := nI 0) dL_led_15 rfl ?_
    exact J_iret dL_led_16
  · refine J_astore_n rv_is dL_led_12 (by decide) (SD.a (lvr := []) [] rfl rfl) ?_
    refine J_iconst (v := nI 1) dL_led_13 rfl ?_
    exact J_iret dL_led_14
theorem ctL_led (l : Launch) (w : WT) (a0 : Nat) (i1 : Int32) (a2 : Nat) (h : AH) : CH l w yL_led cL_led 4 (some .int) [(0, 9, 12, 13)] 7 156 KI [rv (w.1) a0, .int i1, rv (w.1) a2] h (L_led_f a0 i1 a2 h) :=
  CH.of (by decide +kernel) (by simp [lg_sl, rv_cat, cat_I, cat_L, cat_S]) (lv := [(0, rv (w.1) a0), (1, .int i1), (2, rv (w.1) a2)]) (by simp [lv_args, rv_cat, cat_I, cat_L, cat_S]) (fun x hx => by subst hx; exact jL_led x a0 i1 a2 h)
