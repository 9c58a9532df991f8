-- FallTrials$Reader.readCases(LFallTrials$Clause;Z)Z
abbrev qX6_readCases : MT := (cX6_readCases, RX6, "readCases", (some .boolean), 7, 148, 6)
def X6_readCases_B110 (a0 : Nat) (h : AH) : Option (Int32 × AH) :=
  G (xc h a0 = 6) <|
  BN (X6_flawed_f a0 (nI 5) h) fun v3 h2 =>
  G (bz v3) <|
  some (v3, h2)
theorem jX6_readCases_B110 (x : CT) (a0 : Nat) (h : AH) : J x qX6_readCases ZI 110 [(0, rv (zx x) a0)] [] h (X6_readCases_B110 a0 h) := by
  unfold X6_readCases_B110
  refine J_aload_n 0 dX6_readCases_110 rv_is rfl ?_
  refine J_iconst (v := nI 5) dX6_readCases_111 rfl ?_
  refine J_G (fun g1 => ?_)
  refine J.callV (n := 1) (As := [.int (nI 5)]) kc_6 (ctX6_flawed (lx x) (wx x) a0 (nI 5) h) kw_3_213 kw_3_210 kw_3_211 kw_3_212 kw_1_4 (by decide +kernel) rfl (by decide) (Nat.zero_le _) rfl dX6_readCases_112 g1 (fun v3 h2 => ?_)
  show J x _ _ 115 _ [.int v3] h2 _
  refine J_G (fun g4 => ?_)
  exact J_zret dX6_readCases_115 g4
def X6_readCases_B75 (a0 : Nat) (h : AH) : Option (Int32 × AH) :=
  G (xc h a0 = 6) <|
  BN (X6_flawed_f a0 (nI 5) h) fun v3 h2 =>
  G (bz v3) <|
  some (v3, h2)
theorem jX6_readCases_B75 (x : CT) (a0 : Nat) (h : AH) : J x qX6_readCases ZI 75 [(0, rv (zx x) a0)] [] h (X6_readCases_B75 a0 h) := by
  unfold X6_readCases_B75
  refine J_aload_n 0 dX6_readCases_75 rv_is rfl ?_
  refine J_iconst (v := nI 5) dX6_readCases_76 rfl ?_
  refine J_G (fun g1 => ?_)
  refine J.callV (n := 1) (As := [.int (nI 5)]) kc_6 (ctX6_flawed (lx x) (wx x) a0 (nI 5) h) kw_3_213 kw_3_210 kw_3_211 kw_3_212 kw_1_4 (by decide +kernel) rfl (by decide) (Nat.zero_le _) rfl dX6_readCases_77 g1 (fun v3 h2 => ?_)
  show J x _ _ 80 _ [.int v3] h2 _
  refine J_G (fun g4 => ?_)
  exact J_zret dX6_readCases_80 g4
def X6_readCases_B56 (k2 : (Nat → Nat → Int32 → Int32 → AH → Option (Int32 × AH))) (a0 : Nat) (a1 : Nat) (i2 : Int32) (i3 : Int32) (i4 : Int32) (h : AH) : Option (Int32 × AH) :=
  G (xc h a0 = 6) <|
  BN (X6_rowHere_f a0 h) fun v3 h2 =>
  if v3 = (-1) then (
    some (nI 0, h2)
  ) else (
    if i3 = (nI 3) then (
      X6_readCases_B75 a0 h2
    ) else (
      G (xc h2 a1 = 1) <|
      BN (X1_addCase_f a1 v3 i4 h2) fun _ h5 =>
      G (xc h5 a0 = 6) <|
      BN (X6_step_f a0 h5) fun _ h7 =>
      G (xc h7 a0 = 6) <|
      BN (X6_spells_f a0 0 h7) fun v10 h9 =>
      if v10 = 0 then (
        some (nI 1, h9)
      ) else (
        LT (i3 + nI 1) fun v11 =>
        k2 a0 a1 i2 v11 h9
      )
    )
  )
theorem jX6_readCases_B56 (x : CT) (k2 : (Nat → Nat → Int32 → Int32 → AH → Option (Int32 × AH))) (hk2 : ∀ (a0 : Nat) (a1 : Nat) (i2 : Int32) (i3 : Int32) (h : AH), J x qX6_readCases ZI 2 [(0, rv (zx x) a0), (1, rv (zx x) a1), (2, .int i2), (3, .int i3)] [] h (k2 a0 a1 i2 i3 h)) (a0 : Nat) (a1 : Nat) (i2 : Int32) (i3 : Int32) (i4 : Int32) (h : AH) : J x qX6_readCases ZI 56 [(0, rv (zx x) a0), (1, rv (zx x) a1), (2, .int i2), (3, .int i3), (4, .int i4)] [] h (X6_readCases_B56 k2 a0 a1 i2 i3 i4 h) := by
  unfold X6_readCases_B56
  refine J_aload_n 0 dX6_readCases_56 rv_is rfl ?_
  refine J_G (fun g1 => ?_)
  refine J.callV (n := 0) (As := []) kc_6 (ctX6_rowHere (lx x) (wx x) a0 h) kw_3_196 kw_3_193 kw_3_194 kw_3_195 kw_1_4 (by decide +kernel) rfl (by decide) (Nat.zero_le _) rfl dX6_readCases_57 g1 (fun v3 h2 => ?_)
  show J x _ _ 60 _ [.int v3] h2 _
  refine J_istore dX6_readCases_60 (by decide) (SD.a (lvr := [(0, rv (zx x) a0), (1, rv (zx x) a1), (2, .int i2), (3, .int i3), (4, .int i4)]) [0, 1, 2, 3, 4] rfl rfl) ?_
  refine J_iload 0 dX6_readCases_62 rfl ?_
  refine J_iconst (v := (-1)) dX6_readCases_64 rfl ?_
  refine J_icmp_ne (tgt := 70) dX6_readCases_65 rfl ?_ ?_
  · refine J_iload_n 4 dX6_readCases_70 rfl ?_
    refine J_iconst (v := nI 3) dX6_readCases_71 rfl ?_
    refine J_icmp_ne (tgt := 81) dX6_readCases_72 rfl ?_ ?_
    · refine J_aload_n 2 dX6_readCases_81 rv_is rfl ?_
      refine J_iload 0 dX6_readCases_82 rfl ?_
      refine J_iload 5 dX6_readCases_84 rfl ?_
      refine J_G (fun g4 => ?_)
      refine J.callV (n := 2) (As := [.int v3, .int i4]) kc_1 (ctX1_addCase (lx x) (wx x) a1 v3 i4 h2) kw_4_39 kw_4_36 kw_4_37 kw_4_38 kw_1_3 (by decide +kernel) rfl (by decide) (Nat.zero_le _) rfl dX6_readCases_86 g4 (fun _ h5 => ?_)
      show J x _ _ 89 _ [] h5 _
      refine J_aload_n 1 dX6_readCases_89 rv_is rfl ?_
      refine J_G (fun g6 => ?_)
      refine J.callV (n := 0) (As := []) kc_6 (ctX6_step (lx x) (wx x) a0 h5) kw_3_130 kw_3_127 kw_3_128 kw_3_129 kw_1_4 (by decide +kernel) rfl (by decide) (Nat.zero_le _) rfl dX6_readCases_90 g6 (fun _ h7 => ?_)
      show J x _ _ 93 _ [] h7 _
      refine J_aload_n 1 dX6_readCases_93 rv_is rfl ?_
      refine J_ldcS (i := 0) (tx := "and") (index := 117) (by decide +kernel) dX6_readCases_94 ?_
      refine J_G (fun g8 => ?_)
      refine J.callV (n := 1) (As := [sv (wx x) 0]) kc_6 (ctX6_spells (lx x) (wx x) a0 0 h7) kw_3_135 kw_3_132 kw_3_133 kw_3_134 kw_1_4 (by decide +kernel) rfl (by decide) (Nat.zero_le _) rfl dX6_readCases_96 g8 (fun v10 h9 => ?_)
      show J x _ _ 99 _ [.int v10] h9 _
      refine J_if_ne (tgt := 104) dX6_readCases_99 rfl ?_ ?_
      · refine J_iincL (u := i3 + nI 1) 4 dX6_readCases_104 rfl rfl (by decide) (SD.a (lvr := [(0, rv (zx x) a0), (1, rv (zx x) a1), (2, .int i2)]) [1, 2, 3] rfl rfl) (fun v11 => ?_)
        refine J_goto (tgt := 2) dX6_readCases_107 rfl ?_
        exact J_sub [1, 2, 3, 0] rfl (hk2 a0 a1 i2 v11 h9)
      · refine J_iconst (v := nI 1) dX6_readCases_102 rfl ?_
        exact J_zret dX6_readCases_103 (by decide)
    · exact J_sub [1] rfl (jX6_readCases_B75 x a0 h2)
  · refine J_iconst (v := nI 0) dX6_readCases_68 rfl ?_
    exact J_zret dX6_readCases_69 (by decide)
def X6_readCases_B47 (k2 : (Nat → Nat → Int32 → Int32 → AH → Option (Int32 × AH))) (a0 : Nat) (a1 : Nat) (i2 : Int32) (i3 : Int32) (i4 : Int32) (h : AH) : Option (Int32 × AH) :=
  if i4 = 0 then (
    X6_readCases_B56 k2 a0 a1 i2 i3 i4 h
  ) else (
    G (xc h a0 = 6) <|
    BN (X6_step_f a0 h) fun _ h2 =>
    X6_readCases_B56 k2 a0 a1 i2 i3 i4 h2
  )
theorem jX6_readCases_B47 (x : CT) (k2 : (Nat → Nat → Int32 → Int32 → AH → Option (Int32 × AH))) (hk2 : ∀ (a0 : Nat) (a1 : Nat) (i2 : Int32) (i3 : Int32) (h : AH), J x qX6_readCases ZI 2 [(0, rv (zx x) a0), (1, rv (zx x) a1), (2, .int i2), (3, .int i3)] [] h (k2 a0 a1 i2 i3 h)) (a0 : Nat) (a1 : Nat) (i2 : Int32) (i3 : Int32) (i4 : Int32) (h : AH) : J x qX6_readCases ZI 47 [(0, rv (zx x) a0), (1, rv (zx x) a1), (2, .int i2), (3, .int i3), (4, .int i4)] [] h (X6_readCases_B47 k2 a0 a1 i2 i3 i4 h) := by
  unfold X6_readCases_B47
  refine J_iload 4 dX6_readCases_47 rfl ?_
  refine J_if_eq (tgt := 56) dX6_readCases_49 rfl ?_ ?_
  · exact (jX6_readCases_B56 x k2 hk2 a0 a1 i2 i3 i4 h)
  · refine J_aload_n 0 dX6_readCases_52 rv_is rfl ?_
    refine J_G (fun g1 => ?_)
    refine J.callV (n := 0) (As := []) kc_6 (ctX6_step (lx x) (wx x) a0 h) kw_3_130 kw_3_127 kw_3_128 kw_3_129 kw_1_4 (by decide +kernel) rfl (by decide) (Nat.zero_le _) rfl dX6_readCases_53 g1 (fun _ h2 => ?_)
    show J x _ _ 56 _ [] h2 _
    exact (jX6_readCases_B56 x k2 hk2 a0 a1 i2 i3 i4 h2)
def X6_readCases_B41 (a0 : Nat) (h : AH) : Option (Int32 × AH) :=
  G (xc h a0 = 6) <|
  BN (X6_flawed_f a0 (nI 5) h) fun v3 h2 =>
  G (bz v3) <|
  some (v3, h2)
theorem jX6_readCases_B41 (x : CT) (a0 : Nat) (h : AH) : J x qX6_readCases ZI 41 [(0, rv (zx x) a0)] [] h (X6_readCases_B41 a0 h) := by
  unfold X6_readCases_B41
  refine J_aload_n 0 dX6_readCases_41 rv_is rfl ?_
  refine J_iconst (v := nI 5) dX6_readCases_42 rfl ?_
  refine J_G (fun g1 => ?_)
  refine J.callV (n := 1) (As := [.int (nI 5)]) kc_6 (ctX6_flawed (lx x) (wx x) a0 (nI 5) h) kw_3_213 kw_3_210 kw_3_211 kw_3_212 kw_1_4 (by decide +kernel) rfl (by decide) (Nat.zero_le _) rfl dX6_readCases_43 g1 (fun v3 h2 => ?_)
  show J x _ _ 46 _ [.int v3] h2 _
  refine J_G (fun g4 => ?_)
  exact J_zret dX6_readCases_46 g4
def X6_readCases_B29 (k2 : (Nat → Nat → Int32 → Int32 → AH → Option (Int32 × AH))) (a0 : Nat) (a1 : Nat) (i2 : Int32) (i3 : Int32) (is0 : Int32) (h : AH) : Option (Int32 × AH) :=
  if is0 = 0 then (
    X6_readCases_B47 k2 a0 a1 i2 i3 is0 h
  ) else (
    if i3 = (nI 3) then (
      X6_readCases_B41 a0 h
    ) else (
      X6_readCases_B47 k2 a0 a1 i2 i3 is0 h
    )
  )
theorem jX6_readCases_B29 (x : CT) (k2 : (Nat → Nat → Int32 → Int32 → AH → Option (Int32 × AH))) (hk2 : ∀ (a0 : Nat) (a1 : Nat) (i2 : Int32) (i3 : Int32) (h : AH), J x qX6_readCases ZI 2 [(0, rv (zx x) a0), (1, rv (zx x) a1), (2, .int i2), (3, .int i3)] [] h (k2 a0 a1 i2 i3 h)) (a0 : Nat) (a1 : Nat) (i2 : Int32) (i3 : Int32) (is0 : Int32) (h : AH) : J x qX6_readCases ZI 29 [(0, rv (zx x) a0), (1, rv (zx x) a1), (2, .int i2), (3, .int i3)] [.int is0] h (X6_readCases_B29 k2 a0 a1 i2 i3 is0 h) := by
  unfold X6_readCases_B29
  refine J_istore dX6_readCases_29 (by decide) (SD.a (lvr := [(0, rv (zx x) a0), (1, rv (zx x) a1), (2, .int i2), (3, .int i3)]) [0, 1, 2, 3] rfl rfl) ?_
  refine J_iload 0 dX6_readCases_31 rfl ?_
  refine J_if_eq (tgt := 47) dX6_readCases_33 rfl ?_ ?_
  · exact J_sub [1, 2, 3, 4, 0] rfl (jX6_readCases_B47 x k2 hk2 a0 a1 i2 i3 is0 h)
  · refine J_iload_n 4 dX6_readCases_36 rfl ?_
    refine J_iconst (v := nI 3) dX6_readCases_37 rfl ?_
    refine J_icmp_ne (tgt := 47) dX6_readCases_38 rfl ?_ ?_
    · exact J_sub [1, 2, 3, 4, 0] rfl (jX6_readCases_B47 x k2 hk2 a0 a1 i2 i3 is0 h)
    · exact J_sub [1] rfl (jX6_readCases_B41 x a0 h)
def X6_readCases_B28 (k2 : (Nat → Nat → Int32 → Int32 → AH → Option (Int32 × AH))) (a0 : Nat) (a1 : Nat) (i2 : Int32) (i3 : Int32) (h : AH) : Option (Int32 × AH) :=
  X6_readCases_B29 k2 a0 a1 i2 i3 (nI 0) h
theorem jX6_readCases_B28 (x : CT) (k2 : (Nat → Nat → Int32 → Int32 → AH → Option (Int32 × AH))) (hk2 : ∀ (a0 : Nat) (a1 : Nat) (i2 : Int32) (i3 : Int32) (h : AH), J x qX6_readCases ZI 2 [(0, rv (zx x) a0), (1, rv (zx x) a1), (2, .int i2), (3, .int i3)] [] h (k2 a0 a1 i2 i3 h)) (a0 : Nat) (a1 : Nat) (i2 : Int32) (i3 : Int32) (h : AH) : J x qX6_readCases ZI 28 [(0, rv (zx x) a0), (1, rv (zx x) a1), (2, .int i2), (3, .int i3)] [] h (X6_readCases_B28 k2 a0 a1 i2 i3 h) := by
  unfold X6_readCases_B28
  refine J_iconst (v := nI 0) dX6_readCases_28 rfl ?_
  exact (jX6_readCases_B29 x k2 hk2 a0 a1 i2 i3 (nI 0) h)
def X6_readCases_B2 : Nat → Nat → Nat → Int32 → Int32 → AH → Option (Int32 × AH)
  | 0, _, _, _, _, _ => none
  | n + 1, a0, a1, i2, i3, h =>
    if (nI 3) < i3 then (
      X6_readCases_B110 a0 h
    ) else (
      G (xc h a0 = 6) <|
      BN (X6_step_f a0 h) fun _ h2 =>
      if i2 = 0 then (
        X6_readCases_B28 (X6_readCases_B2 n) a0 a1 i2 i3 h2
      ) else (
        G (xc h2 a0 = 6) <|
        BN (X6_spells_f a0 9 h2) fun v5 h4 =>
        if v5 = 0 then (
          X6_readCases_B28 (X6_readCases_B2 n) a0 a1 i2 i3 h4
        ) else (
          X6_readCases_B29 (X6_readCases_B2 n) a0 a1 i2 i3 (nI 1) h4
        )
      )
    )
theorem jX6_readCases_B2 (x : CT) : ∀ (n : Nat) (a0 : Nat) (a1 : Nat) (i2 : Int32) (i3 : Int32) (h : AH), J x qX6_readCases ZI 2 [(0, rv (zx x) a0), (1, rv (zx x) a1), (2, .int i2), (3, .int i3)] [] h (X6_readCases_B2 n a0 a1 i2 i3 h) := by
  intro n
  induction n with
  | zero => intro a0 a1 i2 i3 h; exact J_none
  | succ n ih =>
    intro a0 a1 i2 i3 h
    unfold X6_readCases_B2
    refine J_iload_n 3 dX6_readCases_2 rfl ?_
    refine J_iconst (v := nI 3) dX6_readCases_3 rfl ?_
    refine J_icmp_gt (tgt := 110) dX6_readCases_4 rfl ?_ ?_
    · exact J_sub [0] rfl (jX6_readCases_B110 x a0 h)
    · refine J_aload_n 0 dX6_readCases_7 rv_is rfl ?_
      refine J_G (fun g1 => ?_)
      refine J.callV (n := 0) (As := []) kc_6 (ctX6_step (lx x) (wx x) a0 h) kw_3_130 kw_3_127 kw_3_128 kw_3_129 kw_1_4 (by decide +kernel) rfl (by decide) (Nat.zero_le _) rfl dX6_readCases_8 g1 (fun _ h2 => ?_)
      show J x _ _ 11 _ [] h2 _
      refine J_iload_n 2 dX6_readCases_11 rfl ?_
      refine J_if_eq (tgt := 28) dX6_readCases_12 rfl ?_ ?_
      · exact (jX6_readCases_B28 x (X6_readCases_B2 n) ih a0 a1 i2 i3 h2)
      · refine J_aload_n 0 dX6_readCases_15 rv_is rfl ?_
        refine J_ldcS (i := 9) (tx := "not") (index := 115) (by decide +kernel) dX6_readCases_16 ?_
        refine J_G (fun g3 => ?_)
        refine J.callV (n := 1) (As := [sv (wx x) 9]) kc_6 (ctX6_spells (lx x) (wx x) a0 9 h2) kw_3_135 kw_3_132 kw_3_133 kw_3_134 kw_1_4 (by decide +kernel) rfl (by decide) (Nat.zero_le _) rfl dX6_readCases_18 g3 (fun v5 h4 => ?_)
        show J x _ _ 21 _ [.int v5] h4 _
        refine J_if_eq (tgt := 28) dX6_readCases_21 rfl ?_ ?_
        · exact (jX6_readCases_B28 x (X6_readCases_B2 n) ih a0 a1 i2 i3 h4)
        · refine J_iconst (v := nI 1) dX6_readCases_24 rfl ?_
          refine J_goto (tgt := 29) dX6_readCases_25 rfl ?_
          exact (jX6_readCases_B29 x (X6_readCases_B2 n) ih a0 a1 i2 i3 (nI 1) h4)
def X6_readCases_f (a0 : Nat) (a1 : Nat) (i2 : Int32) (h : AH) : Option (Int32 × AH) :=
  X6_readCases_B2 FU a0 a1 i2 (nI 0) h
theorem jX6_readCases (x : CT) (a0 : Nat) (a1 : Nat) (i2 : Int32) (h : AH) : J x qX6_readCases ZI 0 [(0, rv (zx x) a0), (1, rv (zx x) a1), (2, .int i2)] [] h (X6_readCases_f a0 a1 i2 h) := by
  unfold X6_readCases_f
  refine J_iconst (v := nI 0) dX6_readCases_0 rfl ?_
  refine J_istore_n dX6_readCases_1 (by decide) (SD.a (lvr := [(0, rv (zx x) a0), (1, rv (zx x) a1), (2, .int i2)]) [0, 1, 2] rfl rfl) ?_
  exact J_sub [1, 2, 3, 0] rfl (jX6_readCases_B2 x FU a0 a1 i2 (nI 0) h)
theorem ctX6_readCases (l : Launch) (w : WT) (a0 : Nat) (a1 : Nat) (i2 : Int32) (h : AH) : CM l w yX6_readCases cX6_readCases 6 (some .boolean) 7 148 KI [rv (w.1) a0, rv (w.1) a1, .int i2] h (X6_readCases_f a0 a1 i2 h) :=
  CM.of (by decide +kernel) (by simp [lg_sl, rv_cat, cat_I, cat_L, cat_S]) (lv := [(0, rv (w.1) a0), (1, rv (w.1) a1), (2, .int i2)]) (by simp [lv_args, rv_cat, cat_I, cat_L, cat_S]) (fun x hx => by subst hx; exact jX6_readCases x a0 a1 i2 h)
-- FallTrials$Reader.readSend()Z
abbrev qX6_readSend : MT := (cX6_readSend, RX6, "readSend", (some .boolean), 8, 173, 2)
def X6_readSend_f (a0 : Nat) (h : AH) : Option (Int32 × AH) :=
  G (xc h a0 = 6) <|
  G (xc h (xR h a0 10) = 0) <|
  if (xI h (xR h a0 10) 4) = (nI 6) then (
    G (xc h a0 = 6) <|
    BN (X6_flawed_f a0 (nI 5) h) fun v60 h59 =>
    G (bz v60) <|
    some (v60, h59)
  ) else (
    G (xc h a0 = 6) <|
    G (xc h (xR h a0 10) = 0) <|
    G (xc h (xR h (xR h a0 10) 11) = 20) <|
    G (gx (xI h (xR h a0 10) 4) (xz h (xR h (xR h a0 10) 11))) <|
    LT (xR h (xR h (xR h a0 10) 11) (xI h (xR h a0 10) 4).toNatClampNeg) fun r7 =>
    G (xc h r7 = 1) <|
    BN (X1_wipe_f r7 h) fun _ h9 =>
    G (xc h9 a0 = 6) <|
    BN (X6_stepToRow_f a0 h9) fun v12 h11 =>
    G (xc h11 r7 = 1) <|
    LT (pI h11 r7 3 v12) fun h14 =>
    G (xc h14 r7 = 1) <|
    if (xI h14 r7 3) = (-1) then (
      some (nI 0, h14)
    ) else (
      G (xc h14 a0 = 6) <|
      BN (X6_stepTo_f a0 16 h14) fun v18 h17 =>
      if v18 = 0 then (
        some (nI 0, h17)
      ) else (
        G (xc h17 a0 = 6) <|
        BN (X6_stepToMachine_f a0 h17) fun v21 h20 =>
        G (xc h20 r7 = 1) <|
        LT (pI h20 r7 7 v21) fun h23 =>
        G (xc h23 r7 = 1) <|
        if (xI h23 r7 7) = (-1) then (
          some (nI 0, h23)
        ) else (
          G (xc h23 a0 = 6) <|
          BN (X6_stepTo_f a0 4 h23) fun v27 h26 =>
          if v27 = 0 then (
            some (nI 0, h26)
          ) else (
            G (xc h26 a0 = 6) <|
            BN (X6_readCases_f a0 r7 (nI 1) h26) fun v30 h29 =>
            if v30 = 0 then (
              some (nI 0, h29)
            ) else (
              G (xc h29 a0 = 6) <|
              BN (X6_spells_f a0 1 h29) fun v33 h32 =>
              if v33 = 0 then (
                G (xc h32 a0 = 6) <|
                BN (X6_flawed_f a0 (nI 1) h32) fun v56 h55 =>
                G (bz v56) <|
                some (v56, h55)
              ) else (
                G (xc h32 a0 = 6) <|
                BN (X6_stepToMachine_f a0 h32) fun v36 h35 =>
                G (xc h35 r7 = 1) <|
                LT (pI h35 r7 6 v36) fun h38 =>
                G (xc h38 r7 = 1) <|
                if (xI h38 r7 6) = (-1) then (
                  some (nI 0, h38)
                ) else (
                  G (xc h38 r7 = 1) <|
                  if (xI h38 r7 6) = (xI h38 r7 7) then (
                    G (xc h38 a0 = 6) <|
                    BN (X6_flawed_f a0 (nI 3) h38) fun v52 h51 =>
                    G (bz v52) <|
                    some (v52, h51)
                  ) else (
                    G (xc h38 a0 = 6) <|
                    G (xc h38 (xR h38 a0 10) = 0) <|
                    LT (pI h38 (xR h38 a0 10) 4 ((xI h38 (xR h38 a0 10) 4) + (nI 1))) fun h43 =>
                    G (xc h43 a0 = 6) <|
                    BN (X6_step_f a0 h43) fun _ h45 =>
                    G (xc h45 a0 = 6) <|
                    BN (X6_endsLine_f a0 h45) fun v48 h47 =>
                    G (bz v48) <|
                    some (v48, h47)
                  )
                )
              )
            )
          )
        )
      )
    )
  )
theorem jX6_readSend (x : CT) (a0 : Nat) (h : AH) : J x qX6_readSend ZI 0 [(0, rv (zx x) a0)] [] h (X6_readSend_f a0 h) := by
  unfold X6_readSend_f
  refine J_aload_n 0 dX6_readSend_0 rv_is rfl ?_
  refine J_G (fun g1 => ?_)
  refine J_getR kc_6 10 (by decide) rfl rfl kw_1_218 dX6_readSend_1 g1 ?_
  refine J_G (fun g2 => ?_)
  refine J_getI kc_0 4 (by decide) rfl rfl kw_1_129 dX6_readSend_4 g2 ?_
  refine J_bipush (v := nI 6) dX6_readSend_7 rfl ?_
  refine J_icmp_ne (tgt := 18) dX6_readSend_9 rfl ?_ ?_
  · refine J_aload_n 0 dX6_readSend_18 rv_is rfl ?_
    refine J_G (fun g3 => ?_)
    refine J_getR kc_6 10 (by decide) rfl rfl kw_1_218 dX6_readSend_19 g3 ?_
    refine J_G (fun g4 => ?_)
    refine J_getR kc_0 11 (by decide) rfl rfl kw_1_149 dX6_readSend_22 g4 ?_
    refine J_aload_n 0 dX6_readSend_25 rv_is rfl ?_
    refine J_getR kc_6 10 (by decide) rfl rfl kw_1_218 dX6_readSend_26 g3 ?_
    refine J_getI kc_0 4 (by decide) rfl rfl kw_1_129 dX6_readSend_29 g4 ?_
    refine J_G (fun g5 => ?_)
    refine J_G (fun g6 => ?_)
    refine J_aald (t := 20) (t0 := 4) (Cn := RX1) (by decide) (by decide) (fun _ => rfl) dX6_readSend_32 g5 g6 ?_
    refine J_LTr (fun r7 => ?_)
    refine J_astore_n rv_is dX6_readSend_33 (by decide) (SD.c (lvr := [(0, rv (zx x) a0)]) [0] rfl rfl 0 rfl rfl rv_cat) ?_
    refine J_aload_n 0 dX6_readSend_34 rv_is rfl ?_
    refine J_G (fun g8 => ?_)
    refine J.callV (n := 0) (As := []) kc_1 (ctX1_wipe (lx x) (wx x) r7 h) kw_4_29 kw_4_26 kw_4_27 kw_4_28 kw_1_3 (by decide +kernel) rfl (by decide) (Nat.zero_le _) rfl dX6_readSend_35 g8 (fun _ h9 => ?_)
    show J x _ _ 38 _ [] h9 _
    refine J_aload_n 0 dX6_readSend_38 rv_is rfl ?_
    refine J_aload_n 1 dX6_readSend_39 rv_is rfl ?_
    refine J_G (fun g10 => ?_)
    refine J.callV (n := 0) (As := []) kc_6 (ctX6_stepToRow (lx x) (wx x) a0 h9) kw_4_16 kw_4_13 kw_4_14 kw_4_15 kw_1_4 (by decide +kernel) rfl (by decide) (by simp [rv_cat, cat_I, cat_L, cat_S]) rfl dX6_readSend_40 g10 (fun v12 h11 => ?_)
    show J x _ _ 43 _ [.int v12, rv (zx x) r7] h11 _
    refine J_G (fun g13 => ?_)
    refine J_putI kc_1 3 (by decide) rfl rfl rfl rfl (Or.inl rfl) kw_1_63 dX6_readSend_43 g13 ?_
    refine J_LTh (fun h14 => ?_)
    refine J_aload_n 0 dX6_readSend_46 rv_is rfl ?_
    refine J_G (fun g15 => ?_)
    refine J_getI kc_1 3 (by decide) rfl rfl kw_1_63 dX6_readSend_47 g15 ?_
    refine J_iconst (v := (-1)) dX6_readSend_50 rfl ?_
    refine J_icmp_eq (tgt := 63) dX6_readSend_51 rfl ?_ ?_
    · refine J_iconst (v := nI 0) dX6_readSend_63 rfl ?_
      exact J_zret dX6_readSend_64 (by decide)
    · refine J_aload_n 1 dX6_readSend_54 rv_is rfl ?_
      refine J_ldcS (i := 16) (tx := "to") (index := 203) (by decide +kernel) dX6_readSend_55 ?_
      refine J_G (fun g16 => ?_)
      refine J.callV (n := 1) (As := [sv (wx x) 16]) kc_6 (ctX6_stepTo (lx x) (wx x) a0 16 h14) kw_3_226 kw_3_223 kw_3_224 kw_3_225 kw_1_4 (by decide +kernel) rfl (by decide) (Nat.zero_le _) rfl dX6_readSend_57 g16 (fun v18 h17 => ?_)
      show J x _ _ 60 _ [.int v18] h17 _
      refine J_if_ne (tgt := 65) dX6_readSend_60 rfl ?_ ?_
      · refine J_aload_n 0 dX6_readSend_65 rv_is rfl ?_
        refine J_aload_n 1 dX6_readSend_66 rv_is rfl ?_
        refine J_G (fun g19 => ?_)
        refine J.callV (n := 0) (As := []) kc_6 (ctX6_stepToMachine (lx x) (wx x) a0 h17) kw_3_230 kw_3_227 kw_3_228 kw_3_229 kw_1_4 (by decide +kernel) rfl (by decide) (by simp [rv_cat, cat_I, cat_L, cat_S]) rfl dX6_readSend_67 g19 (fun v21 h20 => ?_)
        show J x _ _ 70 _ [.int v21, rv (zx x) r7] h20 _
        refine J_G (fun g22 => ?_)
        refine J_putI kc_1 7 (by decide) rfl rfl rfl rfl (Or.inl rfl) kw_1_76 dX6_readSend_70 g22 ?_
        refine J_LTh (fun h23 => ?_)
        refine J_aload_n 0 dX6_readSend_73 rv_is rfl ?_
        refine J_G (fun g24 => ?_)
        refine J_getI kc_1 7 (by decide) rfl rfl kw_1_76 dX6_readSend_74 g24 ?_
        refine J_iconst (v := (-1)) dX6_readSend_77 rfl ?_
        refine J_icmp_eq (tgt := 99) dX6_readSend_78 rfl ?_ ?_
        · refine J_iconst (v := nI 0) dX6_readSend_99 rfl ?_
          exact J_zret dX6_readSend_100 (by decide)
        · refine J_aload_n 1 dX6_readSend_81 rv_is rfl ?_
          refine J_ldcS (i := 4) (tx := "if") (index := 122) (by decide +kernel) dX6_readSend_82 ?_
          refine J_G (fun g25 => ?_)
          refine J.callV (n := 1) (As := [sv (wx x) 4]) kc_6 (ctX6_stepTo (lx x) (wx x) a0 4 h23) kw_3_226 kw_3_223 kw_3_224 kw_3_225 kw_1_4 (by decide +kernel) rfl (by decide) (Nat.zero_le _) rfl dX6_readSend_84 g25 (fun v27 h26 => ?_)
          show J x _ _ 87 _ [.int v27] h26 _
          refine J_if_eq (tgt := 99) dX6_readSend_87 rfl ?_ ?_
          · refine J_iconst (v := nI 0) dX6_readSend_99 rfl ?_
            exact J_zret dX6_readSend_100 (by decide)
          · refine J_aload_n 1 dX6_readSend_90 rv_is rfl ?_
            refine J_aload_n 0 dX6_readSend_91 rv_is rfl ?_
            refine J_iconst (v := nI 1) dX6_readSend_92 rfl ?_
            refine J_G (fun g28 => ?_)
            refine J.callV (n := 2) (As := [rv (zx x) r7, .int (nI 1)]) kc_6 (ctX6_readCases (lx x) (wx x) a0 r7 (nI 1) h26) kw_4_35 kw_4_32 kw_4_33 kw_4_34 kw_1_4 (by decide +kernel) rfl (by decide) (Nat.zero_le _) rfl dX6_readSend_93 g28 (fun v30 h29 => ?_)
            show J x _ _ 96 _ [.int v30] h29 _
            refine J_if_ne (tgt := 101) dX6_readSend_96 rfl ?_ ?_
            · refine J_aload_n 1 dX6_readSend_101 rv_is rfl ?_
              refine J_ldcS (i := 1) (tx := "at") (index := 121) (by decide +kernel) dX6_readSend_102 ?_
              refine J_G (fun g31 => ?_)
              refine J.callV (n := 1) (As := [sv (wx x) 1]) kc_6 (ctX6_spells (lx x) (wx x) a0 1 h29) kw_3_135 kw_3_132 kw_3_133 kw_3_134 kw_1_4 (by decide +kernel) rfl (by decide) (Nat.zero_le _) rfl dX6_readSend_104 g31 (fun v33 h32 => ?_)
              show J x _ _ 107 _ [.int v33] h32 _
              refine J_if_ne (tgt := 116) dX6_readSend_107 rfl ?_ ?_
              · refine J_aload_n 0 dX6_readSend_116 rv_is rfl ?_
                refine J_aload_n 1 dX6_readSend_117 rv_is rfl ?_
                refine J_G (fun g34 => ?_)
                refine J.callV (n := 0) (As := []) kc_6 (ctX6_stepToMachine (lx x) (wx x) a0 h32) kw_3_230 kw_3_227 kw_3_228 kw_3_229 kw_1_4 (by decide +kernel) rfl (by decide) (by simp [rv_cat, cat_I, cat_L, cat_S]) rfl dX6_readSend_118 g34 (fun v36 h35 => ?_)
                show J x _ _ 121 _ [.int v36, rv (zx x) r7] h35 _
                refine J_G (fun g37 => ?_)
                refine J_putI kc_1 6 (by decide) rfl rfl rfl rfl (Or.inl rfl) kw_1_71 dX6_readSend_121 g37 ?_
                refine J_LTh (fun h38 => ?_)
                refine J_aload_n 0 dX6_readSend_124 rv_is rfl ?_
                refine J_G (fun g39 => ?_)
                refine J_getI kc_1 6 (by decide) rfl rfl kw_1_71 dX6_readSend_125 g39 ?_
                refine J_iconst (v := (-1)) dX6_readSend_128 rfl ?_
                refine J_icmp_ne (tgt := 134) dX6_readSend_129 rfl ?_ ?_
                · refine J_aload_n 0 dX6_readSend_134 rv_is rfl ?_
                  refine J_G (fun g40 => ?_)
                  refine J_getI kc_1 6 (by decide) rfl rfl kw_1_71 dX6_readSend_135 g40 ?_
                  refine J_aload_n 0 dX6_readSend_138 rv_is rfl ?_
                  refine J_getI kc_1 7 (by decide) rfl rfl kw_1_76 dX6_readSend_139 g40 ?_
                  refine J_icmp_ne (tgt := 151) dX6_readSend_142 rfl ?_ ?_
                  · refine J_aload_n 1 dX6_readSend_151 rv_is rfl ?_
                    refine J_G (fun g41 => ?_)
                    refine J_getR kc_6 10 (by decide) rfl rfl kw_1_218 dX6_readSend_152 g41 ?_
                    refine J_dup dX6_readSend_155 rv_cat ?_
                    refine J_G (fun g42 => ?_)
                    refine J_getI kc_0 4 (by decide) rfl rfl kw_1_129 dX6_readSend_156 g42 ?_
                    refine J_iconst (v := nI 1) dX6_readSend_159 rfl ?_
                    refine J_iadd dX6_readSend_160 ?_
                    refine J_putI kc_0 4 (by decide) rfl rfl rfl rfl (Or.inl rfl) kw_1_129 dX6_readSend_161 g42 ?_
                    refine J_LTh (fun h43 => ?_)
                    refine J_aload_n 1 dX6_readSend_164 rv_is rfl ?_
                    refine J_G (fun g44 => ?_)
                    refine J.callV (n := 0) (As := []) kc_6 (ctX6_step (lx x) (wx x) a0 h43) kw_3_130 kw_3_127 kw_3_128 kw_3_129 kw_1_4 (by decide +kernel) rfl (by decide) (Nat.zero_le _) rfl dX6_readSend_165 g44 (fun _ h45 => ?_)
                    show J x _ _ 168 _ [] h45 _
                    refine J_aload_n 1 dX6_readSend_168 rv_is rfl ?_
                    refine J_G (fun g46 => ?_)
                    refine J.callV (n := 0) (As := []) kc_6 (ctX6_endsLine (lx x) (wx x) a0 h45) kw_4_3 kw_4_0 kw_4_1 kw_4_2 kw_1_4 (by decide +kernel) rfl (by decide) (Nat.zero_le _) rfl dX6_readSend_169 g46 (fun v48 h47 => ?_)
                    show J x _ _ 172 _ [.int v48] h47 _
                    refine J_G (fun g49 => ?_)
                    exact J_zret dX6_readSend_172 g49
                  · refine J_aload_n 1 dX6_readSend_145 rv_is rfl ?_
                    refine J_iconst (v := nI 3) dX6_readSend_146 rfl ?_
                    refine J_G (fun g50 => ?_)
                    refine J.callV (n := 1) (As := [.int (nI 3)]) kc_6 (ctX6_flawed (lx x) (wx x) a0 (nI 3) h38) kw_3_213 kw_3_210 kw_3_211 kw_3_212 kw_1_4 (by decide +kernel) rfl (by decide) (Nat.zero_le _) rfl dX6_readSend_147 g50 (fun v52 h51 => ?_)
                    show J x _ _ 150 _ [.int v52] h51 _
                    refine J_G (fun g53 => ?_)
                    exact J_zret dX6_readSend_150 g53
                · refine J_iconst (v := nI 0) dX6_readSend_132 rfl ?_
                  exact J_zret dX6_readSend_133 (by decide)
              · refine J_aload_n 1 dX6_readSend_110 rv_is rfl ?_
                refine J_iconst (v := nI 1) dX6_readSend_111 rfl ?_
                refine J_G (fun g54 => ?_)
                refine J.callV (n := 1) (As := [.int (nI 1)]) kc_6 (ctX6_flawed (lx x) (wx x) a0 (nI 1) h32) kw_3_213 kw_3_210 kw_3_211 kw_3_212 kw_1_4 (by decide +kernel) rfl (by decide) (Nat.zero_le _) rfl dX6_readSend_112 g54 (fun v56 h55 => ?_)
                show J x _ _ 115 _ [.int v56] h55 _
                refine J_G (fun g57 => ?_)
                exact J_zret dX6_readSend_115 g57
            · refine J_iconst (v := nI 0) dX6_readSend_99 rfl ?_
              exact J_zret dX6_readSend_100 (by decide)
      · refine J_iconst (v := nI 0) dX6_readSend_63 rfl ?_
        exact J_zret dX6_readSend_64 (by decide)
  · refine J_aload_n 0 dX6_readSend_12 rv_is rfl ?_
    refine J_iconst (v := nI 5) dX6_readSend_13 rfl ?_
    refine J_G (fun g58 => ?_)
    refine J.callV (n := 1) (As := [.int (nI 5)]) kc_6 (ctX6_flawed (lx x) (wx x) a0 (nI 5) h) kw_3_213 kw_3_210 kw_3_211 kw_3_212 kw_1_4 (by decide +kernel) rfl (by decide) (Nat.zero_le _) rfl dX6_readSend_14 g58 (fun v60 h59 => ?_)
    show J x _ _ 17 _ [.int v60] h59 _
    refine J_G (fun g61 => ?_)
    exact J_zret dX6_readSend_17 g61
theorem ctX6_readSend (l : Launch) (w : WT) (a0 : Nat) (h : AH) : CM l w yX6_readSend cX6_readSend 2 (some .boolean) 8 173 KI [rv (w.1) a0] h (X6_readSend_f a0 h) :=
  CM.of (by decide +kernel) (by simp [lg_sl, rv_cat, cat_I, cat_L, cat_S]) (lv := [(0, rv (w.1) a0)]) (by simp [lv_args, rv_cat, cat_I, cat_L, cat_S]) (fun x hx => by subst hx; exact jX6_readSend x a0 h)
-- FallTrials$Support.addWords(IIJ)V
abbrev qX7_addWords : MT := (cX7_addWords, RX7, "addWords", none, 2, 56, 6)
def X7_addWords_B56 (k3 : (Nat → Int32 → Int32 → Int64 → Int32 → AH → Option (Unit × AH))) (a0 : Nat) (i1 : Int32) (i2 : Int32) (l3 : Int64) (i5 : Int32) (h : AH) : Option (Unit × AH) :=
  LT (i5 + nI 1) fun v1 =>
  k3 a0 i1 i2 l3 v1 h
theorem jX7_addWords_B56 (x : CT) (k3 : (Nat → Int32 → Int32 → Int64 → Int32 → AH → Option (Unit × AH))) (hk3 : ∀ (a0 : Nat) (i1 : Int32) (i2 : Int32) (l3 : Int64) (i5 : Int32) (h : AH), J x qX7_addWords ZV 3 [(0, rv (zx x) a0), (1, .int i1), (2, .int i2), (3, .long l3), (5, .int i5)] [] h (k3 a0 i1 i2 l3 i5 h)) (a0 : Nat) (i1 : Int32) (i2 : Int32) (l3 : Int64) (i5 : Int32) (h : AH) : J x qX7_addWords ZV 56 [(0, rv (zx x) a0), (1, .int i1), (2, .int i2), (3, .long l3), (5, .int i5)] [] h (X7_addWords_B56 k3 a0 i1 i2 l3 i5 h) := by
  unfold X7_addWords_B56
  refine J_iincL (u := i5 + nI 1) 4 dX7_addWords_56 rfl rfl (by decide) (SD.a (lvr := [(0, rv (zx x) a0), (1, .int i1), (2, .int i2), (3, .long l3)]) [0, 1, 2, 3] rfl rfl) (fun v1 => ?_)
  refine J_goto (tgt := 3) dX7_addWords_59 rfl ?_
  exact J_sub [1, 2, 3, 4, 0] rfl (hk3 a0 i1 i2 l3 v1 h)
def X7_addWords_B3 : Nat → Nat → Int32 → Int32 → Int64 → Int32 → AH → Option (Unit × AH)
  | 0, _, _, _, _, _, _ => none
  | n + 1, a0, i1, i2, l3, i5, h =>
    G (xc h a0 = 7) <|
    G (xc h (xR h a0 2) = 0) <|
    if (xI h (xR h a0 2) 4) ≤ i5 then (
      some ((), h)
    ) else (
      G (xc h a0 = 7) <|
      G (xc h (xR h a0 2) = 0) <|
      G (xc h (xR h (xR h a0 2) 11) = 20) <|
      G (gx i5 (xz h (xR h (xR h a0 2) 11))) <|
      G (xc h (xR h (xR h (xR h a0 2) 11) i5.toNatClampNeg) = 1) <|
      if (xI h (xR h (xR h (xR h a0 2) 11) i5.toNatClampNeg) 7) = i1 then (
        G (xc h a0 = 7) <|
        BN (X7_addWord_f a0 i5 (i2 - (nI 1)) i2 l3 h) fun _ h9 =>
        G (xc h9 a0 = 7) <|
        BN (X7_addWord_f a0 i5 ((i2 - (nI 1)) - (nI 2)) i2 l3 h9) fun _ h11 =>
        X7_addWords_B56 (X7_addWords_B3 n) a0 i1 i2 l3 i5 h11
      ) else (
        X7_addWords_B56 (X7_addWords_B3 n) a0 i1 i2 l3 i5 h
      )
    )
theorem jX7_addWords_B3 (x : CT) : ∀ (n : Nat) (a0 : Nat) (i1 : Int32) (i2 : Int32) (l3 : Int64) (i5 : Int32) (h : AH), J x qX7_addWords ZV 3 [(0, rv (zx x) a0), (1, .int i1), (2, .int i2), (3, .long l3), (5, .int i5)] [] h (X7_addWords_B3 n a0 i1 i2 l3 i5 h) := by
  intro n
  induction n with
  | zero => intro a0 i1 i2 l3 i5 h; exact J_none
  | succ n ih =>
    intro a0 i1 i2 l3 i5 h
    unfold X7_addWords_B3
    refine J_iload 4 dX7_addWords_3 rfl ?_
    refine J_aload_n 0 dX7_addWords_5 rv_is rfl ?_
    refine J_G (fun g1 => ?_)
    refine J_getR kc_7 2 (by decide) rfl rfl kw_2_219 dX7_addWords_6 g1 ?_
    refine J_G (fun g2 => ?_)
    refine J_getI kc_0 4 (by decide) rfl rfl kw_1_128 dX7_addWords_9 g2 ?_
    refine J_icmp_ge (tgt := 62) dX7_addWords_12 rfl ?_ ?_
    · exact J_vret dX7_addWords_62
    · refine J_aload_n 0 dX7_addWords_15 rv_is rfl ?_
      refine J_G (fun g3 => ?_)
      refine J_getR kc_7 2 (by decide) rfl rfl kw_2_219 dX7_addWords_16 g3 ?_
      refine J_G (fun g4 => ?_)
      refine J_getR kc_0 11 (by decide) rfl rfl kw_1_147 dX7_addWords_19 g4 ?_
      refine J_iload 4 dX7_addWords_22 rfl ?_
      refine J_G (fun g5 => ?_)
      refine J_G (fun g6 => ?_)
      refine J_aald (t := 20) (t0 := 4) (Cn := RX1) (by decide) (by decide) (fun _ => rfl) dX7_addWords_24 g5 g6 ?_
      refine J_G (fun g7 => ?_)
      refine J_getI kc_1 7 (by decide) rfl rfl kw_1_74 dX7_addWords_25 g7 ?_
      refine J_iload_n 1 dX7_addWords_28 rfl ?_
      refine J_icmp_ne (tgt := 56) dX7_addWords_29 rfl ?_ ?_
      · exact (jX7_addWords_B56 x (X7_addWords_B3 n) ih a0 i1 i2 l3 i5 h)
      · refine J_aload_n 0 dX7_addWords_32 rv_is rfl ?_
        refine J_iload 4 dX7_addWords_33 rfl ?_
        refine J_iload_n 2 dX7_addWords_35 rfl ?_
        refine J_iconst (v := nI 1) dX7_addWords_36 rfl ?_
        refine J_isub dX7_addWords_37 ?_
        refine J_iload_n 2 dX7_addWords_38 rfl ?_
        refine J_lload_n 3 dX7_addWords_39 rfl ?_
        refine J_G (fun g8 => ?_)
        refine J.callV (n := 4) (As := [.int i5, .int (i2 - (nI 1)), .int i2, .long l3]) kc_7 (ctX7_addWord (lx x) (wx x) a0 i5 (i2 - (nI 1)) i2 l3 h) kw_5_65 kw_5_62 kw_5_63 kw_5_64 kw_1_12 (by decide +kernel) rfl (by decide) (Nat.zero_le _) rfl dX7_addWords_40 g8 (fun _ h9 => ?_)
        show J x _ _ 43 _ [] h9 _
        refine J_aload_n 0 dX7_addWords_43 rv_is rfl ?_
        refine J_iload 4 dX7_addWords_44 rfl ?_
        refine J_iload_n 2 dX7_addWords_46 rfl ?_
        refine J_iconst (v := nI 1) dX7_addWords_47 rfl ?_
        refine J_isub dX7_addWords_48 ?_
        refine J_iconst (v := nI 2) dX7_addWords_49 rfl ?_
        refine J_isub dX7_addWords_50 ?_
        refine J_iload_n 2 dX7_addWords_51 rfl ?_
        refine J_lload_n 3 dX7_addWords_52 rfl ?_
        refine J_G (fun g10 => ?_)
        refine J.callV (n := 4) (As := [.int i5, .int ((i2 - (nI 1)) - (nI 2)), .int i2, .long l3]) kc_7 (ctX7_addWord (lx x) (wx x) a0 i5 ((i2 - (nI 1)) - (nI 2)) i2 l3 h9) kw_5_65 kw_5_62 kw_5_63 kw_5_64 kw_1_12 (by decide +kernel) rfl (by decide) (Nat.zero_le _) rfl dX7_addWords_53 g10 (fun _ h11 => ?_)
        show J x _ _ 56 _ [] h11 _
        exact (jX7_addWords_B56 x (X7_addWords_B3 n) ih a0 i1 i2 l3 i5 h11)
def X7_addWords_f (a0 : Nat) (i1 : Int32) (i2 : Int32) (l3 : Int64) (h : AH) : Option (Unit × AH) :=
  X7_addWords_B3 FU a0 i1 i2 l3 (nI 0) h
theorem jX7_addWords (x : CT) (a0 : Nat) (i1 : Int32) (i2 : Int32) (l3 : Int64) (h : AH) : J x qX7_addWords ZV 0 [(0, rv (zx x) a0), (1, .int i1), (2, .int i2), (3, .long l3)] [] h (X7_addWords_f a0 i1 i2 l3 h) := by
  unfold X7_addWords_f
  refine J_iconst (v := nI 0) dX7_addWords_0 rfl ?_
  refine J_istore dX7_addWords_1 (by decide) (SD.a (lvr := [(0, rv (zx x) a0), (1, .int i1), (2, .int i2), (3, .long l3)]) [0, 1, 2, 3] rfl rfl) ?_
  exact J_sub [1, 2, 3, 4, 0] rfl (jX7_addWords_B3 x FU a0 i1 i2 l3 (nI 0) h)
theorem ctX7_addWords (l : Launch) (w : WT) (a0 : Nat) (i1 : Int32) (i2 : Int32) (l3 : Int64) (h : AH) : CM l w yX7_addWords cX7_addWords 6 none 2 56 KV [rv (w.1) a0, .int i1, .int i2, .long l3] h (X7_addWords_f a0 i1 i2 l3 h) :=
  CM.of (by decide +kernel) (by simp [lg_sl, rv_cat, cat_I, cat_L, cat_S]) (lv := [(0, rv (w.1) a0), (1, .int i1), (2, .int i2), (3, .long l3)]) (by simp [lv_args, rv_cat, cat_I, cat_L, cat_S]) (fun x hx => by subst hx; exact jX7_addWords x a0 i1 i2 l3 h)
-- FallTrials$Support.addNext(IIJ)V
abbrev qX7_addNext : MT := (cX7_addNext, RX7, "addNext", none, 2, 45, 10)
def X7_addNext_B104 (k37 : (Nat → Int32 → Int32 → Int32 → Int64 → Int32 → AH → Option (Unit × AH))) (a0 : Nat) (i1 : Int32) (i2 : Int32) (i5 : Int32) (l6 : Int64) (i8 : Int32) (h : AH) : Option (Unit × AH) :=
  LT (i8 + nI 1) fun v1 =>
  k37 a0 i1 i2 i5 l6 v1 h
theorem jX7_addNext_B104 (x : CT) (k37 : (Nat → Int32 → Int32 → Int32 → Int64 → Int32 → AH → Option (Unit × AH))) (hk37 : ∀ (a0 : Nat) (i1 : Int32) (i2 : Int32) (i5 : Int32) (l6 : Int64) (i8 : Int32) (h : AH), J x qX7_addNext ZV 37 [(0, rv (zx x) a0), (1, .int i1), (2, .int i2), (5, .int i5), (6, .long l6), (8, .int i8)] [] h (k37 a0 i1 i2 i5 l6 i8 h)) (a0 : Nat) (i1 : Int32) (i2 : Int32) (i5 : Int32) (l6 : Int64) (i8 : Int32) (h : AH) : J x qX7_addNext ZV 104 [(0, rv (zx x) a0), (1, .int i1), (2, .int i2), (5, .int i5), (6, .long l6), (8, .int i8)] [] h (X7_addNext_B104 k37 a0 i1 i2 i5 l6 i8 h) := by
  unfold X7_addNext_B104
  refine J_iincL (u := i8 + nI 1) 5 dX7_addNext_104 rfl rfl (by decide) (SD.a (lvr := [(0, rv (zx x) a0), (1, .int i1), (2, .int i2), (5, .int i5), (6, .long l6)]) [0, 1, 2, 3, 4] rfl rfl) (fun v1 => ?_)
  refine J_goto (tgt := 37) dX7_addNext_107 rfl ?_
  exact J_sub [1, 2, 3, 4, 5, 0] rfl (hk37 a0 i1 i2 i5 l6 v1 h)
def X7_addNext_B37 : Nat → Nat → Int32 → Int32 → Int32 → Int64 → Int32 → AH → Option (Unit × AH)
  | 0, _, _, _, _, _, _, _ => none
  | n + 1, a0, i1, i2, i5, l6, i8, h =>
    G (xc h a0 = 7) <|
    G (xc h (xR h a0 2) = 0) <|
    if (xI h (xR h a0 2) 3) ≤ i8 then (
      some ((), h)
    ) else (
      G (xc h a0 = 7) <|
      G (xc h (xR h a0 2) = 0) <|
      G (xc h (xR h (xR h a0 2) 10) = 20) <|
      G (gx i8 (xz h (xR h (xR h a0 2) 10))) <|
      LT (xR h (xR h (xR h a0 2) 10) i8.toNatClampNeg) fun r7 =>
      G (xc h (xR h a0 3) = 8) <|
      BN (X8_bringsNext_f (xR h a0 3) r7 i1 i2 h) fun v10 h9 =>
      if v10 = 0 then (
        X7_addNext_B104 (X7_addNext_B37 n) a0 i1 i2 i5 l6 i8 h9
      ) else (
        G (xc h9 a0 = 7) <|
        G (xc h9 r7 = 1) <|
        G (xc h9 (xR h9 a0 0) = 17) <|
        G (gx (i5 + (xI h9 r7 3)) (xz h9 (xR h9 a0 0))) <|
        BN (X7_casesStand_f a0 r7 i1 (i2 - (nI 1)) h9) fun w16 h15 =>
        G (xc h15 (xR h9 a0 0) = 17) <|
        G (gx (i5 + (xI h9 r7 3)) (xz h15 (xR h9 a0 0))) <|
        LT (pL h15 (xR h9 a0 0) (i5 + (xI h9 r7 3)).toNatClampNeg ((xL h9 (xR h9 a0 0) (i5 + (xI h9 r7 3)).toNatClampNeg) ||| (l6 &&& w16))) fun h19 =>
        X7_addNext_B104 (X7_addNext_B37 n) a0 i1 i2 i5 l6 i8 h19
      )
    )
theorem jX7_addNext_B37 (x : CT) : ∀ (n : Nat) (a0 : Nat) (i1 : Int32) (i2 : Int32) (i5 : Int32) (l6 : Int64) (i8 : Int32) (h : AH), J x qX7_addNext ZV 37 [(0, rv (zx x) a0), (1, .int i1), (2, .int i2), (5, .int i5), (6, .long l6), (8, .int i8)] [] h (X7_addNext_B37 n a0 i1 i2 i5 l6 i8 h) := by
  intro n
  induction n with
  | zero => intro a0 i1 i2 i5 l6 i8 h; exact J_none
  | succ n ih =>
    intro a0 i1 i2 i5 l6 i8 h
    unfold X7_addNext_B37
    refine J_iload 5 dX7_addNext_37 rfl ?_
    refine J_aload_n 0 dX7_addNext_39 rv_is rfl ?_
    refine J_G (fun g1 => ?_)
    refine J_getR kc_7 2 (by decide) rfl rfl kw_2_219 dX7_addNext_40 g1 ?_
    refine J_G (fun g2 => ?_)
    refine J_getI kc_0 3 (by decide) rfl rfl kw_1_121 dX7_addNext_43 g2 ?_
    refine J_icmp_ge (tgt := 110) dX7_addNext_46 rfl ?_ ?_
    · exact J_vret dX7_addNext_110
    · refine J_aload_n 0 dX7_addNext_49 rv_is rfl ?_
      refine J_G (fun g3 => ?_)
      refine J_getR kc_7 2 (by decide) rfl rfl kw_2_219 dX7_addNext_50 g3 ?_
      refine J_G (fun g4 => ?_)
      refine J_getR kc_0 10 (by decide) rfl rfl kw_1_142 dX7_addNext_53 g4 ?_
      refine J_iload 5 dX7_addNext_56 rfl ?_
      refine J_G (fun g5 => ?_)
      refine J_G (fun g6 => ?_)
      refine J_aald (t := 20) (t0 := 4) (Cn := RX1) (by decide) (by decide) (fun _ => rfl) dX7_addNext_58 g5 g6 ?_
      refine J_LTr (fun r7 => ?_)
      refine J_astore rv_is dX7_addNext_59 (by decide) (SD.a (lvr := [(0, rv (zx x) a0), (1, .int i1), (2, .int i2), (5, .int i5), (6, .long l6), (8, .int i8)]) [0, 1, 2, 3, 4, 5] rfl rfl) ?_
      refine J_aload_n 1 dX7_addNext_61 rv_is rfl ?_
      refine J_getR kc_7 3 (by decide) rfl rfl kw_2_220 dX7_addNext_62 g3 ?_
      refine J_aload 0 dX7_addNext_65 rv_is rfl ?_
      refine J_iload_n 2 dX7_addNext_67 rfl ?_
      refine J_iload_n 3 dX7_addNext_68 rfl ?_
      refine J_G (fun g8 => ?_)
      refine J.callV (n := 3) (As := [rv (zx x) r7, .int i1, .int i2]) kc_8 (ctX8_bringsNext (lx x) (wx x) (xR h a0 3) r7 i1 i2 h) kw_5_13 kw_5_84 kw_5_11 kw_5_12 kw_1_10 (by decide +kernel) rfl (by decide) (Nat.zero_le _) rfl dX7_addNext_69 g8 (fun v10 h9 => ?_)
      show J x _ _ 72 _ [.int v10] h9 _
      refine J_if_eq (tgt := 104) dX7_addNext_72 rfl ?_ ?_
      · exact J_sub [1, 2, 3, 4, 5, 6] rfl (jX7_addNext_B104 x (X7_addNext_B37 n) ih a0 i1 i2 i5 l6 i8 h9)
      · refine J_aload_n 1 dX7_addNext_75 rv_is rfl ?_
        refine J_G (fun g11 => ?_)
        refine J_getR kc_7 0 (by decide) rfl rfl kw_2_216 dX7_addNext_76 g11 ?_
        refine J_iload 4 dX7_addNext_79 rfl ?_
        refine J_aload 0 dX7_addNext_81 rv_is rfl ?_
        refine J_G (fun g12 => ?_)
        refine J_getI kc_1 3 (by decide) rfl rfl kw_1_61 dX7_addNext_83 g12 ?_
        refine J_iadd dX7_addNext_86 ?_
        refine J_dup2 dX7_addNext_87 rfl rv_cat ?_
        refine J_G (fun g13 => ?_)
        refine J_G (fun g14 => ?_)
        refine J_lald dX7_addNext_88 g13 g14 ?_
        refine J_lload 5 dX7_addNext_89 rfl ?_
        refine J_aload_n 1 dX7_addNext_91 rv_is rfl ?_
        refine J_aload 0 dX7_addNext_92 rv_is rfl ?_
        refine J_iload_n 2 dX7_addNext_94 rfl ?_
        refine J_iload_n 3 dX7_addNext_95 rfl ?_
        refine J_iconst (v := nI 1) dX7_addNext_96 rfl ?_
        refine J_isub dX7_addNext_97 ?_
        refine J.callV (n := 3) (As := [rv (zx x) r7, .int i1, .int (i2 - (nI 1))]) kc_7 (ctX7_casesStand (lx x) (wx x) a0 r7 i1 (i2 - (nI 1)) h9) kw_5_74 kw_5_71 kw_5_72 kw_5_73 kw_1_12 (by decide +kernel) rfl (by decide) (by simp [rv_cat, cat_I, cat_L, cat_S]) rfl dX7_addNext_98 g11 (fun w16 h15 => ?_)
        show J x _ _ 101 _ [.long w16, .long l6, .long (xL h9 (xR h9 a0 0) (i5 + (xI h9 r7 3)).toNatClampNeg), .int (i5 + (xI h9 r7 3)), rv (zx x) (xR h9 a0 0)] h15 _
        refine J_land dX7_addNext_101 ?_
        refine J_lor dX7_addNext_102 ?_
        refine J_G (fun g17 => ?_)
        refine J_G (fun g18 => ?_)
        refine J_last dX7_addNext_103 g17 g18 ?_
        refine J_LTh (fun h19 => ?_)
        exact J_sub [1, 2, 3, 4, 5, 6] rfl (jX7_addNext_B104 x (X7_addNext_B37 n) ih a0 i1 i2 i5 l6 i8 h19)
def X7_addNext_f (a0 : Nat) (i1 : Int32) (i2 : Int32) (l3 : Int64) (h : AH) : Option (Unit × AH) :=
  BN (X11_cell_f i2 i1 h) fun v2 h1 =>
  LT (v2 * (nI 10)) fun v3 =>
  G (xc h1 a0 = 7) <|
  G (xc h1 (xR h1 a0 4) = 3) <|
  G (xc h1 (xR h1 (xR h1 a0 4) 2) = 17) <|
  G (gx (((i1 * (nI 7)) + i2) - (nI 1)) (xz h1 (xR h1 (xR h1 a0 4) 2))) <|
  LT (l3 &&& ((xL h1 (xR h1 (xR h1 a0 4) 2) (((i1 * (nI 7)) + i2) - (nI 1)).toNatClampNeg) ^^^ (-1))) fun w8 =>
  X7_addNext_B37 FU a0 i1 i2 v3 w8 (nI 0) h1
theorem jX7_addNext (x : CT) (a0 : Nat) (i1 : Int32) (i2 : Int32) (l3 : Int64) (h : AH) : J x qX7_addNext ZV 0 [(0, rv (zx x) a0), (1, .int i1), (2, .int i2), (3, .long l3)] [] h (X7_addNext_f a0 i1 i2 l3 h) := by
  unfold X7_addNext_f
  refine J_iload_n 2 dX7_addNext_0 rfl ?_
  refine J_iload_n 1 dX7_addNext_1 rfl ?_
  refine J.callSN (n := 2) (As := [.int i2, .int i1]) (ctX11_cell (lx x) (wx x) i2 i1 h) kw_4_149 kn_7 kw_4_148 kw_1_1 (by decide +kernel) rfl (by decide) (Nat.zero_le _) rfl dX7_addNext_2 (fun v2 h1 => ?_)
  show J x _ _ 5 _ [.int v2] h1 _
  refine J_bipush (v := nI 10) dX7_addNext_5 rfl ?_
  refine J_imul dX7_addNext_7 ?_
  refine J_LTi (fun v3 => ?_)
  refine J_istore dX7_addNext_8 (by decide) (SD.a (lvr := [(0, rv (zx x) a0), (1, .int i1), (2, .int i2), (3, .long l3)]) [0, 1, 2, 3] rfl rfl) ?_
  refine J_lload_n 4 dX7_addNext_10 rfl ?_
  refine J_aload_n 1 dX7_addNext_11 rv_is rfl ?_
  refine J_G (fun g4 => ?_)
  refine J_getR kc_7 4 (by decide) rfl rfl kw_2_221 dX7_addNext_12 g4 ?_
  refine J_G (fun g5 => ?_)
  refine J_getR kc_3 2 (by decide) rfl rfl kw_2_122 dX7_addNext_15 g5 ?_
  refine J_iload_n 2 dX7_addNext_18 rfl ?_
  refine J_bipush (v := nI 7) dX7_addNext_19 rfl ?_
  refine J_imul dX7_addNext_21 ?_
  refine J_iload_n 3 dX7_addNext_22 rfl ?_
  refine J_iadd dX7_addNext_23 ?_
  refine J_iconst (v := nI 1) dX7_addNext_24 rfl ?_
  refine J_isub dX7_addNext_25 ?_
  refine J_G (fun g6 => ?_)
  refine J_G (fun g7 => ?_)
  refine J_lald dX7_addNext_26 g6 g7 ?_
  refine J_ldc2 (v := (-1)) dX7_addNext_27 kw_5_52 ?_
  refine J_lxor dX7_addNext_30 ?_
  refine J_land dX7_addNext_31 ?_
  refine J_LTl (fun w8 => ?_)
  refine J_lstore dX7_addNext_32 (by decide) (SD.a (lvr := [(5, .int v3), (0, rv (zx x) a0), (1, .int i1), (2, .int i2)]) [0, 1, 2, 3] rfl rfl) rfl ?_
  refine J_iconst (v := nI 0) dX7_addNext_34 rfl ?_
  refine J_istore dX7_addNext_35 (by decide) (SD.a (lvr := [(6, .long w8), (5, .int v3), (0, rv (zx x) a0), (1, .int i1), (2, .int i2)]) [0, 1, 2, 3, 4] rfl rfl) ?_
  exact J_sub [3, 4, 5, 2, 1, 0] rfl (jX7_addNext_B37 x FU a0 i1 i2 v3 w8 (nI 0) h1)
theorem ctX7_addNext (l : Launch) (w : WT) (a0 : Nat) (i1 : Int32) (i2 : Int32) (l3 : Int64) (h : AH) : CM l w yX7_addNext cX7_addNext 10 none 2 45 KV [rv (w.1) a0, .int i1, .int i2, .long l3] h (X7_addNext_f a0 i1 i2 l3 h) :=
  CM.of (by decide +kernel) (by simp [lg_sl, rv_cat, cat_I, cat_L, cat_S]) (lv := [(0, rv (w.1) a0), (1, .int i1), (2, .int i2), (3, .long l3)]) (by simp [lv_args, rv_cat, cat_I, cat_L, cat_S]) (fun x hx => by subst hx; exact jX7_addNext x a0 i1 i2 l3 h)
