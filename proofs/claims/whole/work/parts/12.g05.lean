-- FallTrials.mendAll(LFallTrials$Works;I)V
abbrev qX11_mendAll : MT := (cX11_mendAll, RX11, "mendAll", none, 1, 22, 4)
def X11_mendAll_B33 (k2 : (Nat → Nat → Int32 → Int32 → AH → Option (Unit × AH))) (a0 : Nat) (a1 : Nat) (i2 : Int32) (i3 : Int32) (h : AH) : Option (Unit × AH) :=
  LT (i3 + nI 1) fun v1 =>
  k2 a0 a1 i2 v1 h
theorem jX11_mendAll_B33 (x : CT) (k2 : (Nat → Nat → Int32 → Int32 → AH → Option (Unit × AH))) (hk2 : ∀ (a0 : Nat) (a1 : Nat) (i2 : Int32) (i3 : Int32) (h : AH), J x qX11_mendAll ZV 2 [(0, rv (zx x) a0), (1, rv (zx x) a1), (2, .int i2), (3, .int i3)] [] h (k2 a0 a1 i2 i3 h)) (a0 : Nat) (a1 : Nat) (i2 : Int32) (i3 : Int32) (h : AH) : J x qX11_mendAll ZV 33 [(0, rv (zx x) a0), (1, rv (zx x) a1), (2, .int i2), (3, .int i3)] [] h (X11_mendAll_B33 k2 a0 a1 i2 i3 h) := by
  unfold X11_mendAll_B33
  refine J_iincL (u := i3 + nI 1) 3 dX11_mendAll_33 rfl rfl (by decide) (SD.a (lvr := [(0, rv (zx x) a0), (1, rv (zx x) a1), (2, .int i2)]) [0, 1, 2] rfl rfl) (fun v1 => ?_)
  refine J_goto (tgt := 2) dX11_mendAll_36 rfl ?_
  exact J_sub [1, 2, 3, 0] rfl (hk2 a0 a1 i2 v1 h)
def X11_mendAll_B2 : Nat → Nat → Nat → Int32 → Int32 → AH → Option (Unit × AH)
  | 0, _, _, _, _, _ => none
  | n + 1, a0, a1, i2, i3, h =>
    G (xc h a0 = 11) <|
    G (xc h (xR h a0 6) = 4) <|
    if (xI h (xR h a0 6) 1) ≤ i3 then (
      some ((), h)
    ) else (
      if ((i2 >>> (i3 &&& 31)) &&& (nI 1)) = 0 then (
        X11_mendAll_B33 (X11_mendAll_B2 n) a0 a1 i2 i3 h
      ) else (
        G (xc h a0 = 11) <|
        G (xc h (xR h a0 6) = 4) <|
        BN (X4_at_f (xR h a0 6) i3 h) fun v6 h5 =>
        G (xc h5 a1 = 10) <|
        BN (X10_change_f a1 v6 h5) fun _ h8 =>
        X11_mendAll_B33 (X11_mendAll_B2 n) a0 a1 i2 i3 h8
      )
    )
theorem jX11_mendAll_B2 (x : CT) : ∀ (n : Nat) (a0 : Nat) (a1 : Nat) (i2 : Int32) (i3 : Int32) (h : AH), J x qX11_mendAll ZV 2 [(0, rv (zx x) a0), (1, rv (zx x) a1), (2, .int i2), (3, .int i3)] [] h (X11_mendAll_B2 n a0 a1 i2 i3 h) := by
  intro n
  induction n with
  | zero => intro a0 a1 i2 i3 h; exact J_none
  | succ n ih =>
    intro a0 a1 i2 i3 h
    unfold X11_mendAll_B2
    refine J_iload_n 3 dX11_mendAll_2 rfl ?_
    refine J_aload_n 0 dX11_mendAll_3 rv_is rfl ?_
    refine J_G (fun g1 => ?_)
    refine J_getR kc_11 6 (by decide) rfl rfl kw_3_48 dX11_mendAll_4 g1 ?_
    refine J_G (fun g2 => ?_)
    refine J_getI kc_4 1 (by decide) rfl rfl kw_2_58 dX11_mendAll_7 g2 ?_
    refine J_icmp_ge (tgt := 39) dX11_mendAll_10 rfl ?_ ?_
    · exact J_vret dX11_mendAll_39
    · refine J_iload_n 2 dX11_mendAll_13 rfl ?_
      refine J_iload_n 3 dX11_mendAll_14 rfl ?_
      refine J_ishr dX11_mendAll_15 ?_
      refine J_iconst (v := nI 1) dX11_mendAll_16 rfl ?_
      refine J_iand dX11_mendAll_17 ?_
      refine J_if_eq (tgt := 33) dX11_mendAll_18 rfl ?_ ?_
      · exact (jX11_mendAll_B33 x (X11_mendAll_B2 n) ih a0 a1 i2 i3 h)
      · refine J_aload_n 1 dX11_mendAll_21 rv_is rfl ?_
        refine J_aload_n 0 dX11_mendAll_22 rv_is rfl ?_
        refine J_G (fun g3 => ?_)
        refine J_getR kc_11 6 (by decide) rfl rfl kw_3_48 dX11_mendAll_23 g3 ?_
        refine J_iload_n 3 dX11_mendAll_26 rfl ?_
        refine J_G (fun g4 => ?_)
        refine J.callV (n := 1) (As := [.int i3]) kc_4 (ctX4_at (lx x) (wx x) (xR h a0 6) i3 h) kw_5_177 kw_5_174 kw_5_175 kw_5_176 kw_1_6 (by decide +kernel) rfl (by decide) (by simp [rv_cat, cat_I, cat_L, cat_S]) rfl dX11_mendAll_27 g4 (fun v6 h5 => ?_)
        show J x _ _ 30 _ [.int v6, rv (zx x) a1] h5 _
        refine J_G (fun g7 => ?_)
        refine J.callV (n := 1) (As := [.int v6]) kc_10 (ctX10_change (lx x) (wx x) a1 v6 h5) kw_6_29 kw_6_26 kw_6_27 kw_6_28 kw_1_5 (by decide +kernel) rfl (by decide) (Nat.zero_le _) rfl dX11_mendAll_30 g7 (fun _ h8 => ?_)
        show J x _ _ 33 _ [] h8 _
        exact (jX11_mendAll_B33 x (X11_mendAll_B2 n) ih a0 a1 i2 i3 h8)
def X11_mendAll_f (a0 : Nat) (a1 : Nat) (i2 : Int32) (h : AH) : Option (Unit × AH) :=
  X11_mendAll_B2 FU a0 a1 i2 (nI 0) h
theorem jX11_mendAll (x : CT) (a0 : Nat) (a1 : Nat) (i2 : Int32) (h : AH) : J x qX11_mendAll ZV 0 [(0, rv (zx x) a0), (1, rv (zx x) a1), (2, .int i2)] [] h (X11_mendAll_f a0 a1 i2 h) := by
  unfold X11_mendAll_f
  refine J_iconst (v := nI 0) dX11_mendAll_0 rfl ?_
  refine J_istore_n dX11_mendAll_1 (by decide) (SD.a (lvr := [(0, rv (zx x) a0), (1, rv (zx x) a1), (2, .int i2)]) [0, 1, 2] rfl rfl) ?_
  exact J_sub [1, 2, 3, 0] rfl (jX11_mendAll_B2 x FU a0 a1 i2 (nI 0) h)
theorem ctX11_mendAll (l : Launch) (w : WT) (a0 : Nat) (a1 : Nat) (i2 : Int32) (h : AH) : CM l w yX11_mendAll cX11_mendAll 4 none 1 22 KV [rv (w.1) a0, rv (w.1) a1, .int i2] h (X11_mendAll_f a0 a1 i2 h) :=
  CM.of (by decide +kernel) (by simp [lg_sl, rv_cat, cat_I, cat_L, cat_S]) (lv := [(0, rv (w.1) a0), (1, rv (w.1) a1), (2, .int i2)]) (by simp [lv_args, rv_cat, cat_I, cat_L, cat_S]) (fun x hx => by subst hx; exact jX11_mendAll x a0 a1 i2 h)
-- FallTrials.trouble()I
abbrev qX11_trouble : MT := (cX11_trouble, RX11, "trouble", (some .int), 0, 0, 1)
def X11_trouble_f (a0 : Nat) (h : AH) : Option (Int32 × AH) :=
  G (xc h a0 = 11) <|
  some (xI h a0 15, h)
theorem jX11_trouble (x : CT) (a0 : Nat) (h : AH) : J x qX11_trouble ZI 0 [(0, rv (zx x) a0)] [] h (X11_trouble_f a0 h) := by
  unfold X11_trouble_f
  refine J_aload_n 0 dX11_trouble_0 rv_is rfl ?_
  refine J_G (fun g1 => ?_)
  refine J_getI kc_11 15 (by decide) rfl rfl kw_3_57 dX11_trouble_1 g1 ?_
  exact J_iret dX11_trouble_4
theorem ctX11_trouble (l : Launch) (w : WT) (a0 : Nat) (h : AH) : CM l w yX11_trouble cX11_trouble 1 (some .int) 0 0 KI [rv (w.1) a0] h (X11_trouble_f a0 h) :=
  CM.of (by decide +kernel) (by simp [lg_sl, rv_cat, cat_I, cat_L, cat_S]) (lv := [(0, rv (w.1) a0)]) (by simp [lv_args, rv_cat, cat_I, cat_L, cat_S]) (fun x hx => by subst hx; exact jX11_trouble x a0 h)
-- FallTrialsModel$Book.<init>()V
abbrev qX12_init : MT := (cX12_init, RX12, "<init>", none, 1, 20, 1)
def X12_init_f (a0 : Nat) (h : AH) : Option (Unit × AH) :=
  G (xc h a0 ≠ 99) <|
  LT (xn h) fun r4 =>
  LT (pN h 17 (nI 14).toNatClampNeg) fun h3 =>
  G (xc h3 a0 = 12) <|
  LT (pR h3 a0 8 r4) fun h6 =>
  LT (xn h6) fun r9 =>
  LT (pN h6 19 (nI 14).toNatClampNeg) fun h8 =>
  G (xc h8 a0 = 12) <|
  LT (pR h8 a0 9 r9) fun h11 =>
  LT (xn h11) fun r14 =>
  LT (pN h11 16 (nI 14).toNatClampNeg) fun h13 =>
  G (xc h13 a0 = 12) <|
  LT (pR h13 a0 10 r14) fun h16 =>
  LT (xn h16) fun r19 =>
  LT (pN h16 16 (nI 10).toNatClampNeg) fun h18 =>
  G (xc h18 a0 = 12) <|
  LT (pR h18 a0 11 r19) fun h21 =>
  LT (xn h21) fun r24 =>
  LT (pN h21 16 (nI 10).toNatClampNeg) fun h23 =>
  G (xc h23 a0 = 12) <|
  LT (pR h23 a0 12 r24) fun h26 =>
  LT (xn h26) fun r29 =>
  LT (pN h26 16 (nI 10).toNatClampNeg) fun h28 =>
  G (xc h28 a0 = 12) <|
  LT (pR h28 a0 13 r29) fun h31 =>
  LT (xn h31) fun r34 =>
  LT (pN h31 16 (nI 10).toNatClampNeg) fun h33 =>
  G (xc h33 a0 = 12) <|
  LT (pR h33 a0 14 r34) fun h36 =>
  LT (xn h36) fun r39 =>
  LT (pN h36 16 (nI 10).toNatClampNeg) fun h38 =>
  G (xc h38 a0 = 12) <|
  LT (pR h38 a0 15 r39) fun h41 =>
  LT (xn h41) fun r44 =>
  LT (pN h41 19 (nI 10).toNatClampNeg) fun h43 =>
  G (xc h43 a0 = 12) <|
  LT (pR h43 a0 16 r44) fun h46 =>
  LT (xn h46) fun r49 =>
  LT (pN h46 16 (nI 6).toNatClampNeg) fun h48 =>
  G (xc h48 a0 = 12) <|
  LT (pR h48 a0 17 r49) fun h51 =>
  LT (xn h51) fun r54 =>
  LT (pN h51 16 (nI 6).toNatClampNeg) fun h53 =>
  G (xc h53 a0 = 12) <|
  LT (pR h53 a0 18 r54) fun h56 =>
  LT (xn h56) fun r59 =>
  LT (pN h56 16 (nI 6).toNatClampNeg) fun h58 =>
  G (xc h58 a0 = 12) <|
  LT (pR h58 a0 19 r59) fun h61 =>
  LT (xn h61) fun r64 =>
  LT (pN h61 16 (nI 16).toNatClampNeg) fun h63 =>
  G (xc h63 a0 = 12) <|
  LT (pR h63 a0 20 r64) fun h66 =>
  LT (xn h66) fun r69 =>
  LT (pN h66 16 (nI 16).toNatClampNeg) fun h68 =>
  G (xc h68 a0 = 12) <|
  LT (pR h68 a0 21 r69) fun h71 =>
  LT (xn h71) fun r74 =>
  LT (pN h71 16 (nI 3).toNatClampNeg) fun h73 =>
  G (xc h73 a0 = 12) <|
  LT (pR h73 a0 24 r74) fun h76 =>
  LT (xn h76) fun r79 =>
  LT (pN h76 16 (nI 3).toNatClampNeg) fun h78 =>
  G (xc h78 a0 = 12) <|
  LT (pR h78 a0 25 r79) fun h81 =>
  LT (xn h81) fun r84 =>
  LT (pN h81 16 (nI 3).toNatClampNeg) fun h83 =>
  G (xc h83 a0 = 12) <|
  LT (pR h83 a0 26 r84) fun h86 =>
  LT (xn h86) fun r89 =>
  LT (pN h86 16 (nI 3).toNatClampNeg) fun h88 =>
  G (xc h88 a0 = 12) <|
  LT (pR h88 a0 27 r89) fun h91 =>
  some ((), h91)
theorem jX12_init (x : CT) (a0 : Nat) (h : AH) : J x qX12_init ZV 0 [(0, rv (zx x) a0)] [] h (X12_init_f a0 h) := by
  unfold X12_init_f
  refine J_aload_n 0 dX12_init_0 rv_is rfl ?_
  refine J_G (fun g1 => ?_)
  refine J_objInit kw_7_145 kw_1_35 kw_1_36 (by decide) dX12_init_1 g1 ?_
  refine J_aload_n 0 dX12_init_4 rv_is rfl ?_
  refine J_bipush (v := nI 14) dX12_init_5 rfl ?_
  refine J_newarr17 kw_2_3 dX12_init_7 (by decide) ?_
  refine J_LTr (fun r4 => ?_)
  refine J_LTh (fun h3 => ?_)
  refine J_G (fun g5 => ?_)
  refine J_putR kc_12 8 (by decide) rfl rfl (Or.inr ⟨_, rfl⟩) (Or.inr ⟨rfl, rfl, rfl⟩) kw_7_155 dX12_init_9 g5 ?_
  refine J_LTh (fun h6 => ?_)
  refine J_aload_n 0 dX12_init_12 rv_is rfl ?_
  refine J_bipush (v := nI 14) dX12_init_13 rfl ?_
  refine J_newarr19 kw_1_102 dX12_init_15 (by decide) ?_
  refine J_LTr (fun r9 => ?_)
  refine J_LTh (fun h8 => ?_)
  refine J_G (fun g10 => ?_)
  refine J_putR kc_12 9 (by decide) rfl rfl (Or.inr ⟨_, rfl⟩) (Or.inr ⟨rfl, rfl, rfl⟩) kw_7_157 dX12_init_17 g10 ?_
  refine J_LTh (fun h11 => ?_)
  refine J_aload_n 0 dX12_init_20 rv_is rfl ?_
  refine J_bipush (v := nI 14) dX12_init_21 rfl ?_
  refine J_newarr16 kw_1_101 dX12_init_23 (by decide) ?_
  refine J_LTr (fun r14 => ?_)
  refine J_LTh (fun h13 => ?_)
  refine J_G (fun g15 => ?_)
  refine J_putR kc_12 10 (by decide) rfl rfl (Or.inr ⟨_, rfl⟩) (Or.inr ⟨rfl, rfl, rfl⟩) kw_7_159 dX12_init_25 g15 ?_
  refine J_LTh (fun h16 => ?_)
  refine J_aload_n 0 dX12_init_28 rv_is rfl ?_
  refine J_bipush (v := nI 10) dX12_init_29 rfl ?_
  refine J_newarr16 kw_1_101 dX12_init_31 (by decide) ?_
  refine J_LTr (fun r19 => ?_)
  refine J_LTh (fun h18 => ?_)
  refine J_G (fun g20 => ?_)
  refine J_putR kc_12 11 (by decide) rfl rfl (Or.inr ⟨_, rfl⟩) (Or.inr ⟨rfl, rfl, rfl⟩) kw_7_161 dX12_init_33 g20 ?_
  refine J_LTh (fun h21 => ?_)
  refine J_aload_n 0 dX12_init_36 rv_is rfl ?_
  refine J_bipush (v := nI 10) dX12_init_37 rfl ?_
  refine J_newarr16 kw_1_101 dX12_init_39 (by decide) ?_
  refine J_LTr (fun r24 => ?_)
  refine J_LTh (fun h23 => ?_)
  refine J_G (fun g25 => ?_)
  refine J_putR kc_12 12 (by decide) rfl rfl (Or.inr ⟨_, rfl⟩) (Or.inr ⟨rfl, rfl, rfl⟩) kw_7_163 dX12_init_41 g25 ?_
  refine J_LTh (fun h26 => ?_)
  refine J_aload_n 0 dX12_init_44 rv_is rfl ?_
  refine J_bipush (v := nI 10) dX12_init_45 rfl ?_
  refine J_newarr16 kw_1_101 dX12_init_47 (by decide) ?_
  refine J_LTr (fun r29 => ?_)
  refine J_LTh (fun h28 => ?_)
  refine J_G (fun g30 => ?_)
  refine J_putR kc_12 13 (by decide) rfl rfl (Or.inr ⟨_, rfl⟩) (Or.inr ⟨rfl, rfl, rfl⟩) kw_7_165 dX12_init_49 g30 ?_
  refine J_LTh (fun h31 => ?_)
  refine J_aload_n 0 dX12_init_52 rv_is rfl ?_
  refine J_bipush (v := nI 10) dX12_init_53 rfl ?_
  refine J_newarr16 kw_1_101 dX12_init_55 (by decide) ?_
  refine J_LTr (fun r34 => ?_)
  refine J_LTh (fun h33 => ?_)
  refine J_G (fun g35 => ?_)
  refine J_putR kc_12 14 (by decide) rfl rfl (Or.inr ⟨_, rfl⟩) (Or.inr ⟨rfl, rfl, rfl⟩) kw_7_167 dX12_init_57 g35 ?_
  refine J_LTh (fun h36 => ?_)
  refine J_aload_n 0 dX12_init_60 rv_is rfl ?_
  refine J_bipush (v := nI 10) dX12_init_61 rfl ?_
  refine J_newarr16 kw_1_101 dX12_init_63 (by decide) ?_
  refine J_LTr (fun r39 => ?_)
  refine J_LTh (fun h38 => ?_)
  refine J_G (fun g40 => ?_)
  refine J_putR kc_12 15 (by decide) rfl rfl (Or.inr ⟨_, rfl⟩) (Or.inr ⟨rfl, rfl, rfl⟩) kw_7_169 dX12_init_65 g40 ?_
  refine J_LTh (fun h41 => ?_)
  refine J_aload_n 0 dX12_init_68 rv_is rfl ?_
  refine J_bipush (v := nI 10) dX12_init_69 rfl ?_
  refine J_newarr19 kw_1_102 dX12_init_71 (by decide) ?_
  refine J_LTr (fun r44 => ?_)
  refine J_LTh (fun h43 => ?_)
  refine J_G (fun g45 => ?_)
  refine J_putR kc_12 16 (by decide) rfl rfl (Or.inr ⟨_, rfl⟩) (Or.inr ⟨rfl, rfl, rfl⟩) kw_7_171 dX12_init_73 g45 ?_
  refine J_LTh (fun h46 => ?_)
  refine J_aload_n 0 dX12_init_76 rv_is rfl ?_
  refine J_bipush (v := nI 6) dX12_init_77 rfl ?_
  refine J_newarr16 kw_1_101 dX12_init_79 (by decide) ?_
  refine J_LTr (fun r49 => ?_)
  refine J_LTh (fun h48 => ?_)
  refine J_G (fun g50 => ?_)
  refine J_putR kc_12 17 (by decide) rfl rfl (Or.inr ⟨_, rfl⟩) (Or.inr ⟨rfl, rfl, rfl⟩) kw_7_173 dX12_init_81 g50 ?_
  refine J_LTh (fun h51 => ?_)
  refine J_aload_n 0 dX12_init_84 rv_is rfl ?_
  refine J_bipush (v := nI 6) dX12_init_85 rfl ?_
  refine J_newarr16 kw_1_101 dX12_init_87 (by decide) ?_
  refine J_LTr (fun r54 => ?_)
  refine J_LTh (fun h53 => ?_)
  refine J_G (fun g55 => ?_)
  refine J_putR kc_12 18 (by decide) rfl rfl (Or.inr ⟨_, rfl⟩) (Or.inr ⟨rfl, rfl, rfl⟩) kw_7_175 dX12_init_89 g55 ?_
  refine J_LTh (fun h56 => ?_)
  refine J_aload_n 0 dX12_init_92 rv_is rfl ?_
  refine J_bipush (v := nI 6) dX12_init_93 rfl ?_
  refine J_newarr16 kw_1_101 dX12_init_95 (by decide) ?_
  refine J_LTr (fun r59 => ?_)
  refine J_LTh (fun h58 => ?_)
  refine J_G (fun g60 => ?_)
  refine J_putR kc_12 19 (by decide) rfl rfl (Or.inr ⟨_, rfl⟩) (Or.inr ⟨rfl, rfl, rfl⟩) kw_7_177 dX12_init_97 g60 ?_
  refine J_LTh (fun h61 => ?_)
  refine J_aload_n 0 dX12_init_100 rv_is rfl ?_
  refine J_bipush (v := nI 16) dX12_init_101 rfl ?_
  refine J_newarr16 kw_1_101 dX12_init_103 (by decide) ?_
  refine J_LTr (fun r64 => ?_)
  refine J_LTh (fun h63 => ?_)
  refine J_G (fun g65 => ?_)
  refine J_putR kc_12 20 (by decide) rfl rfl (Or.inr ⟨_, rfl⟩) (Or.inr ⟨rfl, rfl, rfl⟩) kw_7_179 dX12_init_105 g65 ?_
  refine J_LTh (fun h66 => ?_)
  refine J_aload_n 0 dX12_init_108 rv_is rfl ?_
  refine J_bipush (v := nI 16) dX12_init_109 rfl ?_
  refine J_newarr16 kw_1_101 dX12_init_111 (by decide) ?_
  refine J_LTr (fun r69 => ?_)
  refine J_LTh (fun h68 => ?_)
  refine J_G (fun g70 => ?_)
  refine J_putR kc_12 21 (by decide) rfl rfl (Or.inr ⟨_, rfl⟩) (Or.inr ⟨rfl, rfl, rfl⟩) kw_7_181 dX12_init_113 g70 ?_
  refine J_LTh (fun h71 => ?_)
  refine J_aload_n 0 dX12_init_116 rv_is rfl ?_
  refine J_iconst (v := nI 3) dX12_init_117 rfl ?_
  refine J_newarr16 kw_1_101 dX12_init_118 (by decide) ?_
  refine J_LTr (fun r74 => ?_)
  refine J_LTh (fun h73 => ?_)
  refine J_G (fun g75 => ?_)
  refine J_putR kc_12 24 (by decide) rfl rfl (Or.inr ⟨_, rfl⟩) (Or.inr ⟨rfl, rfl, rfl⟩) kw_7_185 dX12_init_120 g75 ?_
  refine J_LTh (fun h76 => ?_)
  refine J_aload_n 0 dX12_init_123 rv_is rfl ?_
  refine J_iconst (v := nI 3) dX12_init_124 rfl ?_
  refine J_newarr16 kw_1_101 dX12_init_125 (by decide) ?_
  refine J_LTr (fun r79 => ?_)
  refine J_LTh (fun h78 => ?_)
  refine J_G (fun g80 => ?_)
  refine J_putR kc_12 25 (by decide) rfl rfl (Or.inr ⟨_, rfl⟩) (Or.inr ⟨rfl, rfl, rfl⟩) kw_7_187 dX12_init_127 g80 ?_
  refine J_LTh (fun h81 => ?_)
  refine J_aload_n 0 dX12_init_130 rv_is rfl ?_
  refine J_iconst (v := nI 3) dX12_init_131 rfl ?_
  refine J_newarr16 kw_1_101 dX12_init_132 (by decide) ?_
  refine J_LTr (fun r84 => ?_)
  refine J_LTh (fun h83 => ?_)
  refine J_G (fun g85 => ?_)
  refine J_putR kc_12 26 (by decide) rfl rfl (Or.inr ⟨_, rfl⟩) (Or.inr ⟨rfl, rfl, rfl⟩) kw_7_189 dX12_init_134 g85 ?_
  refine J_LTh (fun h86 => ?_)
  refine J_aload_n 0 dX12_init_137 rv_is rfl ?_
  refine J_iconst (v := nI 3) dX12_init_138 rfl ?_
  refine J_newarr16 kw_1_101 dX12_init_139 (by decide) ?_
  refine J_LTr (fun r89 => ?_)
  refine J_LTh (fun h88 => ?_)
  refine J_G (fun g90 => ?_)
  refine J_putR kc_12 27 (by decide) rfl rfl (Or.inr ⟨_, rfl⟩) (Or.inr ⟨rfl, rfl, rfl⟩) kw_7_191 dX12_init_141 g90 ?_
  refine J_LTh (fun h91 => ?_)
  exact J_vret dX12_init_144
theorem ctX12_init (l : Launch) (w : WT) (a0 : Nat) (h : AH) : CM l w yX12_init cX12_init 1 none 1 20 KV [rv (w.1) a0] h (X12_init_f a0 h) :=
  CM.of (by decide +kernel) (by simp [lg_sl, rv_cat, cat_I, cat_L, cat_S]) (lv := [(0, rv (w.1) a0)]) (by simp [lv_args, rv_cat, cat_I, cat_L, cat_S]) (fun x hx => by subst hx; exact jX12_init x a0 h)
-- FallTrialsModel$Book.find(J)I
abbrev qX12_find : MT := (cX12_find, RX12, "find", (some .int), 0, 0, 4)
def X12_find_B2 : Nat → Nat → Int64 → Int32 → AH → Option (Int32 × AH)
  | 0, _, _, _, _ => none
  | n + 1, a0, l1, i3, h =>
    G (xc h a0 = 12) <|
    if (xI h a0 0) ≤ i3 then (
      some ((-1), h)
    ) else (
      G (xc h a0 = 12) <|
      G (xc h (xR h a0 8) = 17) <|
      G (gx i3 (xz h (xR h a0 8))) <|
      if (lg_cmp (xL h (xR h a0 8) i3.toNatClampNeg) l1) = 0 then (
        some (i3, h)
      ) else (
        LT (i3 + nI 1) fun v5 =>
        X12_find_B2 n a0 l1 v5 h
      )
    )
theorem jX12_find_B2 (x : CT) : ∀ (n : Nat) (a0 : Nat) (l1 : Int64) (i3 : Int32) (h : AH), J x qX12_find ZI 2 [(0, rv (zx x) a0), (1, .long l1), (3, .int i3)] [] h (X12_find_B2 n a0 l1 i3 h) := by
  intro n
  induction n with
  | zero => intro a0 l1 i3 h; exact J_none
  | succ n ih =>
    intro a0 l1 i3 h
    unfold X12_find_B2
    refine J_iload_n 2 dX12_find_2 rfl ?_
    refine J_aload_n 0 dX12_find_3 rv_is rfl ?_
    refine J_G (fun g1 => ?_)
    refine J_getI kc_12 0 (by decide) rfl rfl kw_7_146 dX12_find_4 g1 ?_
    refine J_icmp_ge (tgt := 29) dX12_find_7 rfl ?_ ?_
    · refine J_iconst (v := (-1)) dX12_find_29 rfl ?_
      exact J_iret dX12_find_30
    · refine J_aload_n 0 dX12_find_10 rv_is rfl ?_
      refine J_G (fun g2 => ?_)
      refine J_getR kc_12 8 (by decide) rfl rfl kw_7_155 dX12_find_11 g2 ?_
      refine J_iload_n 2 dX12_find_14 rfl ?_
      refine J_G (fun g3 => ?_)
      refine J_G (fun g4 => ?_)
      refine J_lald dX12_find_15 g3 g4 ?_
      refine J_lload_n 1 dX12_find_16 rfl ?_
      refine J_lcmp dX12_find_17 ?_
      refine J_if_ne (tgt := 23) dX12_find_18 rfl ?_ ?_
      · refine J_iincL (u := i3 + nI 1) 2 dX12_find_23 rfl rfl (by decide) (SD.a (lvr := [(0, rv (zx x) a0), (1, .long l1)]) [0, 1] rfl rfl) (fun v5 => ?_)
        refine J_goto (tgt := 2) dX12_find_26 rfl ?_
        exact J_sub [1, 2, 0] rfl (ih a0 l1 v5 h)
      · refine J_iload_n 2 dX12_find_21 rfl ?_
        exact J_iret dX12_find_22
def X12_find_f (a0 : Nat) (l1 : Int64) (h : AH) : Option (Int32 × AH) :=
  X12_find_B2 FU a0 l1 (nI 0) h
theorem jX12_find (x : CT) (a0 : Nat) (l1 : Int64) (h : AH) : J x qX12_find ZI 0 [(0, rv (zx x) a0), (1, .long l1)] [] h (X12_find_f a0 l1 h) := by
  unfold X12_find_f
  refine J_iconst (v := nI 0) dX12_find_0 rfl ?_
  refine J_istore_n dX12_find_1 (by decide) (SD.a (lvr := [(0, rv (zx x) a0), (1, .long l1)]) [0, 1] rfl rfl) ?_
  exact J_sub [1, 2, 0] rfl (jX12_find_B2 x FU a0 l1 (nI 0) h)
theorem ctX12_find (l : Launch) (w : WT) (a0 : Nat) (l1 : Int64) (h : AH) : CM l w yX12_find cX12_find 4 (some .int) 0 0 KI [rv (w.1) a0, .long l1] h (X12_find_f a0 l1 h) :=
  CM.of (by decide +kernel) (by simp [lg_sl, rv_cat, cat_I, cat_L, cat_S]) (lv := [(0, rv (w.1) a0), (1, .long l1)]) (by simp [lv_args, rv_cat, cat_I, cat_L, cat_S]) (fun x hx => by subst hx; exact jX12_find x a0 l1 h)
-- FallTrialsModel$Harm.<init>()V
abbrev qX13_init : MT := (cX13_init, RX13, "<init>", none, 1, 20, 1)
def X13_init_f (a0 : Nat) (h : AH) : Option (Unit × AH) :=
  G (xc h a0 ≠ 99) <|
  LT (xn h) fun r4 =>
  LT (pN h 19 (nI 42).toNatClampNeg) fun h3 =>
  G (xc h3 a0 = 13) <|
  LT (pR h3 a0 0 r4) fun h6 =>
  LT (xn h6) fun r9 =>
  LT (pN h6 19 (nI 42).toNatClampNeg) fun h8 =>
  G (xc h8 a0 = 13) <|
  LT (pR h8 a0 1 r9) fun h11 =>
  LT (xn h11) fun r14 =>
  LT (pN h11 16 (nI 7).toNatClampNeg) fun h13 =>
  G (xc h13 a0 = 13) <|
  LT (pR h13 a0 2 r14) fun h16 =>
  some ((), h16)
theorem jX13_init (x : CT) (a0 : Nat) (h : AH) : J x qX13_init ZV 0 [(0, rv (zx x) a0)] [] h (X13_init_f a0 h) := by
  unfold X13_init_f
  refine J_aload_n 0 dX13_init_0 rv_is rfl ?_
  refine J_G (fun g1 => ?_)
  refine J_objInit kw_6_196 kw_1_35 kw_1_36 (by decide) dX13_init_1 g1 ?_
  refine J_aload_n 0 dX13_init_4 rv_is rfl ?_
  refine J_bipush (v := nI 42) dX13_init_5 rfl ?_
  refine J_newarr19 kw_1_102 dX13_init_7 (by decide) ?_
  refine J_LTr (fun r4 => ?_)
  refine J_LTh (fun h3 => ?_)
  refine J_G (fun g5 => ?_)
  refine J_putR kc_13 0 (by decide) rfl rfl (Or.inr ⟨_, rfl⟩) (Or.inr ⟨rfl, rfl, rfl⟩) kw_6_197 dX13_init_9 g5 ?_
  refine J_LTh (fun h6 => ?_)
  refine J_aload_n 0 dX13_init_12 rv_is rfl ?_
  refine J_bipush (v := nI 42) dX13_init_13 rfl ?_
  refine J_newarr19 kw_1_102 dX13_init_15 (by decide) ?_
  refine J_LTr (fun r9 => ?_)
  refine J_LTh (fun h8 => ?_)
  refine J_G (fun g10 => ?_)
  refine J_putR kc_13 1 (by decide) rfl rfl (Or.inr ⟨_, rfl⟩) (Or.inr ⟨rfl, rfl, rfl⟩) kw_6_199 dX13_init_17 g10 ?_
  refine J_LTh (fun h11 => ?_)
  refine J_aload_n 0 dX13_init_20 rv_is rfl ?_
  refine J_bipush (v := nI 7) dX13_init_21 rfl ?_
  refine J_newarr16 kw_1_101 dX13_init_23 (by decide) ?_
  refine J_LTr (fun r14 => ?_)
  refine J_LTh (fun h13 => ?_)
  refine J_G (fun g15 => ?_)
  refine J_putR kc_13 2 (by decide) rfl rfl (Or.inr ⟨_, rfl⟩) (Or.inr ⟨rfl, rfl, rfl⟩) kw_6_201 dX13_init_25 g15 ?_
  refine J_LTh (fun h16 => ?_)
  exact J_vret dX13_init_28
theorem ctX13_init (l : Launch) (w : WT) (a0 : Nat) (h : AH) : CM l w yX13_init cX13_init 1 none 1 20 KV [rv (w.1) a0] h (X13_init_f a0 h) :=
  CM.of (by decide +kernel) (by simp [lg_sl, rv_cat, cat_I, cat_L, cat_S]) (lv := [(0, rv (w.1) a0)]) (by simp [lv_args, rv_cat, cat_I, cat_L, cat_S]) (fun x hx => by subst hx; exact jX13_init x a0 h)
-- FallTrialsModel$Harm.lay([III)V
abbrev qX13_lay : MT := (cX13_lay, RX13, "lay", none, 0, 0, 9)
def X13_lay_B219 (k59 : (Nat → Nat → Int32 → Int32 → Int32 → AH → Option (Unit × AH))) (a0 : Nat) (a1 : Nat) (i2 : Int32) (i3 : Int32) (i4 : Int32) (h : AH) : Option (Unit × AH) :=
  LT (i4 + nI 1) fun v1 =>
  k59 a0 a1 i2 i3 v1 h
theorem jX13_lay_B219 (x : CT) (k59 : (Nat → Nat → Int32 → Int32 → Int32 → AH → Option (Unit × AH))) (hk59 : ∀ (a0 : Nat) (a1 : Nat) (i2 : Int32) (i3 : Int32) (i4 : Int32) (h : AH), J x qX13_lay ZV 59 [(0, rv (zx x) a0), (1, rv (zx x) a1), (2, .int i2), (3, .int i3), (4, .int i4)] [] h (k59 a0 a1 i2 i3 i4 h)) (a0 : Nat) (a1 : Nat) (i2 : Int32) (i3 : Int32) (i4 : Int32) (h : AH) : J x qX13_lay ZV 219 [(0, rv (zx x) a0), (1, rv (zx x) a1), (2, .int i2), (3, .int i3), (4, .int i4)] [] h (X13_lay_B219 k59 a0 a1 i2 i3 i4 h) := by
  unfold X13_lay_B219
  refine J_iincL (u := i4 + nI 1) 4 dX13_lay_219 rfl rfl (by decide) (SD.a (lvr := [(0, rv (zx x) a0), (1, rv (zx x) a1), (2, .int i2), (3, .int i3)]) [0, 1, 2, 3] rfl rfl) (fun v1 => ?_)
  refine J_goto (tgt := 59) dX13_lay_222 rfl ?_
  exact J_sub [1, 2, 3, 4, 0] rfl (hk59 a0 a1 i2 i3 v1 h)
def X13_lay_B177 (k59 : (Nat → Nat → Int32 → Int32 → Int32 → AH → Option (Unit × AH))) : Nat → Nat → Nat → Int32 → Int32 → Int32 → Int32 → Int32 → Int32 → Int32 → AH → Option (Unit × AH)
  | 0, _, _, _, _, _, _, _, _, _, _ => none
  | n + 1, a0, a1, i2, i3, i4, i5, i6, i7, i8, h =>
    if (nI 7) ≤ i8 then (
      X13_lay_B219 k59 a0 a1 i2 i3 i4 h
    ) else (
      if (i7 + (nI 2)) ≤ i8 then (
        X13_lay_B219 k59 a0 a1 i2 i3 i4 h
      ) else (
        if i5 = (nI 2) then (
          G (xc h a0 = 13) <|
          G (xc h (xR h a0 2) = 16) <|
          G (gx i8 (xz h (xR h a0 2))) <|
          G (gx i8 (xz h (xR h a0 2))) <|
          LT (pI h (xR h a0 2) i8.toNatClampNeg ((xI h (xR h a0 2) i8.toNatClampNeg) ||| ((nI 1) <<< (i6 &&& 31)))) fun h5 =>
          LT (i8 + nI 1) fun v6 =>
          X13_lay_B177 k59 n a0 a1 i2 i3 i4 i5 i6 i7 v6 h5
        ) else (
          X13_lay_B219 k59 a0 a1 i2 i3 i4 h
        )
      )
    )
theorem jX13_lay_B177 (x : CT) (k59 : (Nat → Nat → Int32 → Int32 → Int32 → AH → Option (Unit × AH))) (hk59 : ∀ (a0 : Nat) (a1 : Nat) (i2 : Int32) (i3 : Int32) (i4 : Int32) (h : AH), J x qX13_lay ZV 59 [(0, rv (zx x) a0), (1, rv (zx x) a1), (2, .int i2), (3, .int i3), (4, .int i4)] [] h (k59 a0 a1 i2 i3 i4 h)) : ∀ (n : Nat) (a0 : Nat) (a1 : Nat) (i2 : Int32) (i3 : Int32) (i4 : Int32) (i5 : Int32) (i6 : Int32) (i7 : Int32) (i8 : Int32) (h : AH), J x qX13_lay ZV 177 [(0, rv (zx x) a0), (1, rv (zx x) a1), (2, .int i2), (3, .int i3), (4, .int i4), (5, .int i5), (6, .int i6), (7, .int i7), (8, .int i8)] [] h (X13_lay_B177 k59 n a0 a1 i2 i3 i4 i5 i6 i7 i8 h) := by
  intro n
  induction n with
  | zero => intro a0 a1 i2 i3 i4 i5 i6 i7 i8 h; exact J_none
  | succ n ih =>
    intro a0 a1 i2 i3 i4 i5 i6 i7 i8 h
    unfold X13_lay_B177
    refine J_iload 8 dX13_lay_177 rfl ?_
    refine J_bipush (v := nI 7) dX13_lay_179 rfl ?_
    refine J_icmp_ge (tgt := 219) dX13_lay_181 rfl ?_ ?_
    · exact J_sub [0, 1, 2, 3, 4] rfl (jX13_lay_B219 x k59 hk59 a0 a1 i2 i3 i4 h)
    · refine J_iload 8 dX13_lay_184 rfl ?_
      refine J_iload 7 dX13_lay_186 rfl ?_
      refine J_iconst (v := nI 2) dX13_lay_188 rfl ?_
      refine J_iadd dX13_lay_189 ?_
      refine J_icmp_ge (tgt := 219) dX13_lay_190 rfl ?_ ?_
      · exact J_sub [0, 1, 2, 3, 4] rfl (jX13_lay_B219 x k59 hk59 a0 a1 i2 i3 i4 h)
      · refine J_iload 5 dX13_lay_193 rfl ?_
        refine J_iconst (v := nI 2) dX13_lay_195 rfl ?_
        refine J_icmp_ne (tgt := 219) dX13_lay_196 rfl ?_ ?_
        · exact J_sub [0, 1, 2, 3, 4] rfl (jX13_lay_B219 x k59 hk59 a0 a1 i2 i3 i4 h)
        · refine J_aload_n 0 dX13_lay_199 rv_is rfl ?_
          refine J_G (fun g1 => ?_)
          refine J_getR kc_13 2 (by decide) rfl rfl kw_6_201 dX13_lay_200 g1 ?_
          refine J_iload 8 dX13_lay_203 rfl ?_
          refine J_dup2 dX13_lay_205 rfl rv_cat ?_
          refine J_G (fun g2 => ?_)
          refine J_G (fun g3 => ?_)
          refine J_iald dX13_lay_206 g2 g3 ?_
          refine J_iconst (v := nI 1) dX13_lay_207 rfl ?_
          refine J_iload 6 dX13_lay_208 rfl ?_
          refine J_ishl dX13_lay_210 ?_
          refine J_ior dX13_lay_211 ?_
          refine J_G (fun g4 => ?_)
          refine J_iast dX13_lay_212 g2 g4 ?_
          refine J_LTh (fun h5 => ?_)
          refine J_iincL (u := i8 + nI 1) 8 dX13_lay_213 rfl rfl (by decide) (SD.a (lvr := [(0, rv (zx x) a0), (1, rv (zx x) a1), (2, .int i2), (3, .int i3), (4, .int i4), (5, .int i5), (6, .int i6), (7, .int i7)]) [0, 1, 2, 3, 4, 5, 6, 7] rfl rfl) (fun v6 => ?_)
          refine J_goto (tgt := 177) dX13_lay_216 rfl ?_
          exact J_sub [1, 2, 3, 4, 5, 6, 7, 8, 0] rfl (ih a0 a1 i2 i3 i4 i5 i6 i7 v6 h5)
def X13_lay_B173 (k59 : (Nat → Nat → Int32 → Int32 → Int32 → AH → Option (Unit × AH))) (a0 : Nat) (a1 : Nat) (i2 : Int32) (i3 : Int32) (i4 : Int32) (i5 : Int32) (i6 : Int32) (i7 : Int32) (h : AH) : Option (Unit × AH) :=
  X13_lay_B177 k59 FU a0 a1 i2 i3 i4 i5 i6 i7 i7 h
theorem jX13_lay_B173 (x : CT) (k59 : (Nat → Nat → Int32 → Int32 → Int32 → AH → Option (Unit × AH))) (hk59 : ∀ (a0 : Nat) (a1 : Nat) (i2 : Int32) (i3 : Int32) (i4 : Int32) (h : AH), J x qX13_lay ZV 59 [(0, rv (zx x) a0), (1, rv (zx x) a1), (2, .int i2), (3, .int i3), (4, .int i4)] [] h (k59 a0 a1 i2 i3 i4 h)) (a0 : Nat) (a1 : Nat) (i2 : Int32) (i3 : Int32) (i4 : Int32) (i5 : Int32) (i6 : Int32) (i7 : Int32) (h : AH) : J x qX13_lay ZV 173 [(0, rv (zx x) a0), (1, rv (zx x) a1), (2, .int i2), (3, .int i3), (4, .int i4), (5, .int i5), (6, .int i6), (7, .int i7)] [] h (X13_lay_B173 k59 a0 a1 i2 i3 i4 i5 i6 i7 h) := by
  unfold X13_lay_B173
  refine J_iload 7 dX13_lay_173 rfl ?_
  refine J_istore dX13_lay_175 (by decide) (SD.a (lvr := [(0, rv (zx x) a0), (1, rv (zx x) a1), (2, .int i2), (3, .int i3), (4, .int i4), (5, .int i5), (6, .int i6), (7, .int i7)]) [0, 1, 2, 3, 4, 5, 6, 7] rfl rfl) ?_
  exact J_sub [1, 2, 3, 4, 5, 6, 7, 8, 0] rfl (jX13_lay_B177 x k59 hk59 FU a0 a1 i2 i3 i4 i5 i6 i7 i7 h)
def X13_lay_B140 (k59 : (Nat → Nat → Int32 → Int32 → Int32 → AH → Option (Unit × AH))) : Nat → Nat → Nat → Int32 → Int32 → Int32 → Int32 → Int32 → Int32 → Int32 → AH → Option (Unit × AH)
  | 0, _, _, _, _, _, _, _, _, _, _ => none
  | n + 1, a0, a1, i2, i3, i4, i5, i6, i7, i8, h =>
    if (nI 7) ≤ i8 then (
      X13_lay_B173 k59 a0 a1 i2 i3 i4 i5 i6 i7 h
    ) else (
      if i5 = (nI 1) then (
        G (xc h a0 = 13) <|
        G (xc h (xR h a0 2) = 16) <|
        G (gx i8 (xz h (xR h a0 2))) <|
        G (gx i8 (xz h (xR h a0 2))) <|
        LT (pI h (xR h a0 2) i8.toNatClampNeg ((xI h (xR h a0 2) i8.toNatClampNeg) ||| ((nI 1) <<< (i6 &&& 31)))) fun h5 =>
        LT (i8 + nI 1) fun v6 =>
        X13_lay_B140 k59 n a0 a1 i2 i3 i4 i5 i6 i7 v6 h5
      ) else (
        X13_lay_B173 k59 a0 a1 i2 i3 i4 i5 i6 i7 h
      )
    )
theorem jX13_lay_B140 (x : CT) (k59 : (Nat → Nat → Int32 → Int32 → Int32 → AH → Option (Unit × AH))) (hk59 : ∀ (a0 : Nat) (a1 : Nat) (i2 : Int32) (i3 : Int32) (i4 : Int32) (h : AH), J x qX13_lay ZV 59 [(0, rv (zx x) a0), (1, rv (zx x) a1), (2, .int i2), (3, .int i3), (4, .int i4)] [] h (k59 a0 a1 i2 i3 i4 h)) : ∀ (n : Nat) (a0 : Nat) (a1 : Nat) (i2 : Int32) (i3 : Int32) (i4 : Int32) (i5 : Int32) (i6 : Int32) (i7 : Int32) (i8 : Int32) (h : AH), J x qX13_lay ZV 140 [(0, rv (zx x) a0), (1, rv (zx x) a1), (2, .int i2), (3, .int i3), (4, .int i4), (5, .int i5), (6, .int i6), (7, .int i7), (8, .int i8)] [] h (X13_lay_B140 k59 n a0 a1 i2 i3 i4 i5 i6 i7 i8 h) := by
  intro n
  induction n with
  | zero => intro a0 a1 i2 i3 i4 i5 i6 i7 i8 h; exact J_none
  | succ n ih =>
    intro a0 a1 i2 i3 i4 i5 i6 i7 i8 h
    unfold X13_lay_B140
    refine J_iload 8 dX13_lay_140 rfl ?_
    refine J_bipush (v := nI 7) dX13_lay_142 rfl ?_
    refine J_icmp_ge (tgt := 173) dX13_lay_144 rfl ?_ ?_
    · exact J_sub [0, 1, 2, 3, 4, 5, 6, 7] rfl (jX13_lay_B173 x k59 hk59 a0 a1 i2 i3 i4 i5 i6 i7 h)
    · refine J_iload 5 dX13_lay_147 rfl ?_
      refine J_iconst (v := nI 1) dX13_lay_149 rfl ?_
      refine J_icmp_ne (tgt := 173) dX13_lay_150 rfl ?_ ?_
      · exact J_sub [0, 1, 2, 3, 4, 5, 6, 7] rfl (jX13_lay_B173 x k59 hk59 a0 a1 i2 i3 i4 i5 i6 i7 h)
      · refine J_aload_n 0 dX13_lay_153 rv_is rfl ?_
        refine J_G (fun g1 => ?_)
        refine J_getR kc_13 2 (by decide) rfl rfl kw_6_201 dX13_lay_154 g1 ?_
        refine J_iload 8 dX13_lay_157 rfl ?_
        refine J_dup2 dX13_lay_159 rfl rv_cat ?_
        refine J_G (fun g2 => ?_)
        refine J_G (fun g3 => ?_)
        refine J_iald dX13_lay_160 g2 g3 ?_
        refine J_iconst (v := nI 1) dX13_lay_161 rfl ?_
        refine J_iload 6 dX13_lay_162 rfl ?_
        refine J_ishl dX13_lay_164 ?_
        refine J_ior dX13_lay_165 ?_
        refine J_G (fun g4 => ?_)
        refine J_iast dX13_lay_166 g2 g4 ?_
        refine J_LTh (fun h5 => ?_)
        refine J_iincL (u := i8 + nI 1) 8 dX13_lay_167 rfl rfl (by decide) (SD.a (lvr := [(0, rv (zx x) a0), (1, rv (zx x) a1), (2, .int i2), (3, .int i3), (4, .int i4), (5, .int i5), (6, .int i6), (7, .int i7)]) [0, 1, 2, 3, 4, 5, 6, 7] rfl rfl) (fun v6 => ?_)
        refine J_goto (tgt := 140) dX13_lay_170 rfl ?_
        exact J_sub [1, 2, 3, 4, 5, 6, 7, 8, 0] rfl (ih a0 a1 i2 i3 i4 i5 i6 i7 v6 h5)
def X13_lay_B136 (k59 : (Nat → Nat → Int32 → Int32 → Int32 → AH → Option (Unit × AH))) (a0 : Nat) (a1 : Nat) (i2 : Int32) (i3 : Int32) (i4 : Int32) (i5 : Int32) (i6 : Int32) (i7 : Int32) (h : AH) : Option (Unit × AH) :=
  X13_lay_B140 k59 FU a0 a1 i2 i3 i4 i5 i6 i7 i7 h
theorem jX13_lay_B136 (x : CT) (k59 : (Nat → Nat → Int32 → Int32 → Int32 → AH → Option (Unit × AH))) (hk59 : ∀ (a0 : Nat) (a1 : Nat) (i2 : Int32) (i3 : Int32) (i4 : Int32) (h : AH), J x qX13_lay ZV 59 [(0, rv (zx x) a0), (1, rv (zx x) a1), (2, .int i2), (3, .int i3), (4, .int i4)] [] h (k59 a0 a1 i2 i3 i4 h)) (a0 : Nat) (a1 : Nat) (i2 : Int32) (i3 : Int32) (i4 : Int32) (i5 : Int32) (i6 : Int32) (i7 : Int32) (h : AH) : J x qX13_lay ZV 136 [(0, rv (zx x) a0), (1, rv (zx x) a1), (2, .int i2), (3, .int i3), (4, .int i4), (5, .int i5), (6, .int i6), (7, .int i7)] [] h (X13_lay_B136 k59 a0 a1 i2 i3 i4 i5 i6 i7 h) := by
  unfold X13_lay_B136
  refine J_iload 7 dX13_lay_136 rfl ?_
  refine J_istore dX13_lay_138 (by decide) (SD.a (lvr := [(0, rv (zx x) a0), (1, rv (zx x) a1), (2, .int i2), (3, .int i3), (4, .int i4), (5, .int i5), (6, .int i6), (7, .int i7)]) [0, 1, 2, 3, 4, 5, 6, 7] rfl rfl) ?_
  exact J_sub [1, 2, 3, 4, 5, 6, 7, 8, 0] rfl (jX13_lay_B140 x k59 hk59 FU a0 a1 i2 i3 i4 i5 i6 i7 i7 h)
def X13_lay_B116 (k59 : (Nat → Nat → Int32 → Int32 → Int32 → AH → Option (Unit × AH))) (a0 : Nat) (a1 : Nat) (i2 : Int32) (i3 : Int32) (i4 : Int32) (i5 : Int32) (i6 : Int32) (i7 : Int32) (h : AH) : Option (Unit × AH) :=
  if i5 = (nI 3) then (
    G (xc h a0 = 13) <|
    G (xc h (xR h a0 1) = 19) <|
    G (gx (((nI 7) * i6) + i7) (xz h (xR h a0 1))) <|
    LT (pI h (xR h a0 1) (((nI 7) * i6) + i7).toNatClampNeg (vp_nar .boolean (nI 1))) fun h4 =>
    X13_lay_B136 k59 a0 a1 i2 i3 i4 i5 i6 i7 h4
  ) else (
    X13_lay_B136 k59 a0 a1 i2 i3 i4 i5 i6 i7 h
  )
theorem jX13_lay_B116 (x : CT) (k59 : (Nat → Nat → Int32 → Int32 → Int32 → AH → Option (Unit × AH))) (hk59 : ∀ (a0 : Nat) (a1 : Nat) (i2 : Int32) (i3 : Int32) (i4 : Int32) (h : AH), J x qX13_lay ZV 59 [(0, rv (zx x) a0), (1, rv (zx x) a1), (2, .int i2), (3, .int i3), (4, .int i4)] [] h (k59 a0 a1 i2 i3 i4 h)) (a0 : Nat) (a1 : Nat) (i2 : Int32) (i3 : Int32) (i4 : Int32) (i5 : Int32) (i6 : Int32) (i7 : Int32) (h : AH) : J x qX13_lay ZV 116 [(0, rv (zx x) a0), (1, rv (zx x) a1), (2, .int i2), (3, .int i3), (4, .int i4), (5, .int i5), (6, .int i6), (7, .int i7)] [] h (X13_lay_B116 k59 a0 a1 i2 i3 i4 i5 i6 i7 h) := by
  unfold X13_lay_B116
  refine J_iload 5 dX13_lay_116 rfl ?_
  refine J_iconst (v := nI 3) dX13_lay_118 rfl ?_
  refine J_icmp_ne (tgt := 136) dX13_lay_119 rfl ?_ ?_
  · exact (jX13_lay_B136 x k59 hk59 a0 a1 i2 i3 i4 i5 i6 i7 h)
  · refine J_aload_n 0 dX13_lay_122 rv_is rfl ?_
    refine J_G (fun g1 => ?_)
    refine J_getR kc_13 1 (by decide) rfl rfl kw_6_199 dX13_lay_123 g1 ?_
    refine J_bipush (v := nI 7) dX13_lay_126 rfl ?_
    refine J_iload 6 dX13_lay_128 rfl ?_
    refine J_imul dX13_lay_130 ?_
    refine J_iload 7 dX13_lay_131 rfl ?_
    refine J_iadd dX13_lay_133 ?_
    refine J_iconst (v := nI 1) dX13_lay_134 rfl ?_
    refine J_G (fun g2 => ?_)
    refine J_G (fun g3 => ?_)
    refine J_zast dX13_lay_135 g2 g3 ?_
    refine J_LTh (fun h4 => ?_)
    exact (jX13_lay_B136 x k59 hk59 a0 a1 i2 i3 i4 i5 i6 i7 h4)
def X13_lay_B59 : Nat → Nat → Nat → Int32 → Int32 → Int32 → AH → Option (Unit × AH)
  | 0, _, _, _, _, _, _ => none
  | n + 1, a0, a1, i2, i3, i4, h =>
    if (i2 + i3) ≤ i4 then (
      some ((), h)
    ) else (
      G (xc h a1 = 16) <|
      G (gx i4 (xz h a1)) <|
      LT ((xI h a1 i4.toNatClampNeg) / (nI 100)) fun v3 =>
      G (gx i4 (xz h a1)) <|
      LT (((xI h a1 i4.toNatClampNeg) / (nI 10)) - ((xI h a1 i4.toNatClampNeg) / (nI 10)) / (nI 10) * (nI 10)) fun v5 =>
      G (gx i4 (xz h a1)) <|
      LT ((xI h a1 i4.toNatClampNeg) - (xI h a1 i4.toNatClampNeg) / (nI 10) * (nI 10)) fun v7 =>
      if v3 = 0 then (
        G (xc h a0 = 13) <|
        G (xc h (xR h a0 0) = 19) <|
        G (gx (((nI 7) * v5) + v7) (xz h (xR h a0 0))) <|
        LT (pI h (xR h a0 0) (((nI 7) * v5) + v7).toNatClampNeg (vp_nar .boolean (nI 1))) fun h11 =>
        X13_lay_B116 (X13_lay_B59 n) a0 a1 i2 i3 i4 v3 v5 v7 h11
      ) else (
        X13_lay_B116 (X13_lay_B59 n) a0 a1 i2 i3 i4 v3 v5 v7 h
      )
    )
theorem jX13_lay_B59 (x : CT) : ∀ (n : Nat) (a0 : Nat) (a1 : Nat) (i2 : Int32) (i3 : Int32) (i4 : Int32) (h : AH), J x qX13_lay ZV 59 [(0, rv (zx x) a0), (1, rv (zx x) a1), (2, .int i2), (3, .int i3), (4, .int i4)] [] h (X13_lay_B59 n a0 a1 i2 i3 i4 h) := by
  intro n
  induction n with
  | zero => intro a0 a1 i2 i3 i4 h; exact J_none
  | succ n ih =>
    intro a0 a1 i2 i3 i4 h
    unfold X13_lay_B59
    refine J_iload 4 dX13_lay_59 rfl ?_
    refine J_iload_n 2 dX13_lay_61 rfl ?_
    refine J_iload_n 3 dX13_lay_62 rfl ?_
    refine J_iadd dX13_lay_63 ?_
    refine J_icmp_ge (tgt := 225) dX13_lay_64 rfl ?_ ?_
    · exact J_vret dX13_lay_225
    · refine J_aload_n 1 dX13_lay_67 rv_is rfl ?_
      refine J_iload 4 dX13_lay_68 rfl ?_
      refine J_G (fun g1 => ?_)
      refine J_G (fun g2 => ?_)
      refine J_iald dX13_lay_70 g1 g2 ?_
      refine J_bipush (v := nI 100) dX13_lay_71 rfl ?_
      refine J_idiv dX13_lay_73 (by decide) ?_
      refine J_LTi (fun v3 => ?_)
      refine J_istore dX13_lay_74 (by decide) (SD.a (lvr := [(0, rv (zx x) a0), (1, rv (zx x) a1), (2, .int i2), (3, .int i3), (4, .int i4)]) [0, 1, 2, 3, 4] rfl rfl) ?_
      refine J_aload_n 2 dX13_lay_76 rv_is rfl ?_
      refine J_iload 5 dX13_lay_77 rfl ?_
      refine J_G (fun g4 => ?_)
      refine J_iald dX13_lay_79 g1 g4 ?_
      refine J_bipush (v := nI 10) dX13_lay_80 rfl ?_
      refine J_idiv dX13_lay_82 (by decide) ?_
      refine J_bipush (v := nI 10) dX13_lay_83 rfl ?_
      refine J_irem dX13_lay_85 (by decide) ?_
      refine J_LTi (fun v5 => ?_)
      refine J_istore dX13_lay_86 (by decide) (SD.a (lvr := [(5, .int v3), (0, rv (zx x) a0), (1, rv (zx x) a1), (2, .int i2), (3, .int i3), (4, .int i4)]) [0, 1, 2, 3, 4, 5] rfl rfl) ?_
      refine J_aload_n 3 dX13_lay_88 rv_is rfl ?_
      refine J_iload 6 dX13_lay_89 rfl ?_
      refine J_G (fun g6 => ?_)
      refine J_iald dX13_lay_91 g1 g6 ?_
      refine J_bipush (v := nI 10) dX13_lay_92 rfl ?_
      refine J_irem dX13_lay_94 (by decide) ?_
      refine J_LTi (fun v7 => ?_)
      refine J_istore dX13_lay_95 (by decide) (SD.a (lvr := [(6, .int v5), (5, .int v3), (0, rv (zx x) a0), (1, rv (zx x) a1), (2, .int i2), (3, .int i3), (4, .int i4)]) [0, 1, 2, 3, 4, 5, 6] rfl rfl) ?_
      refine J_iload 2 dX13_lay_97 rfl ?_
      refine J_if_ne (tgt := 116) dX13_lay_99 rfl ?_ ?_
      · exact J_sub [3, 4, 5, 6, 7, 2, 1, 0] rfl (jX13_lay_B116 x (X13_lay_B59 n) ih a0 a1 i2 i3 i4 v3 v5 v7 h)
      · refine J_aload_n 3 dX13_lay_102 rv_is rfl ?_
        refine J_G (fun g8 => ?_)
        refine J_getR kc_13 0 (by decide) rfl rfl kw_6_197 dX13_lay_103 g8 ?_
        refine J_bipush (v := nI 7) dX13_lay_106 rfl ?_
        refine J_iload 1 dX13_lay_108 rfl ?_
        refine J_imul dX13_lay_110 ?_
        refine J_iload 0 dX13_lay_111 rfl ?_
        refine J_iadd dX13_lay_113 ?_
        refine J_iconst (v := nI 1) dX13_lay_114 rfl ?_
        refine J_G (fun g9 => ?_)
        refine J_G (fun g10 => ?_)
        refine J_zast dX13_lay_115 g9 g10 ?_
        refine J_LTh (fun h11 => ?_)
        exact J_sub [3, 4, 5, 6, 7, 2, 1, 0] rfl (jX13_lay_B116 x (X13_lay_B59 n) ih a0 a1 i2 i3 i4 v3 v5 v7 h11)
def X13_lay_B56 (a0 : Nat) (a1 : Nat) (i2 : Int32) (i3 : Int32) (h : AH) : Option (Unit × AH) :=
  X13_lay_B59 FU a0 a1 i2 i3 i2 h
theorem jX13_lay_B56 (x : CT) (a0 : Nat) (a1 : Nat) (i2 : Int32) (i3 : Int32) (h : AH) : J x qX13_lay ZV 56 [(0, rv (zx x) a0), (1, rv (zx x) a1), (2, .int i2), (3, .int i3)] [] h (X13_lay_B56 a0 a1 i2 i3 h) := by
  unfold X13_lay_B56
  refine J_iload_n 2 dX13_lay_56 rfl ?_
  refine J_istore dX13_lay_57 (by decide) (SD.a (lvr := [(0, rv (zx x) a0), (1, rv (zx x) a1), (2, .int i2), (3, .int i3)]) [0, 1, 2, 3] rfl rfl) ?_
  exact J_sub [1, 2, 3, 4, 0] rfl (jX13_lay_B59 x FU a0 a1 i2 i3 i2 h)
def X13_lay_B35 : Nat → Nat → Nat → Int32 → Int32 → Int32 → AH → Option (Unit × AH)
  | 0, _, _, _, _, _, _ => none
  | n + 1, a0, a1, i2, i3, i4, h =>
    if (nI 7) ≤ i4 then (
      X13_lay_B56 a0 a1 i2 i3 h
    ) else (
      G (xc h a0 = 13) <|
      G (xc h (xR h a0 2) = 16) <|
      G (gx i4 (xz h (xR h a0 2))) <|
      LT (pI h (xR h a0 2) i4.toNatClampNeg (nI 0)) fun h4 =>
      LT (i4 + nI 1) fun v5 =>
      X13_lay_B35 n a0 a1 i2 i3 v5 h4
    )
theorem jX13_lay_B35 (x : CT) : ∀ (n : Nat) (a0 : Nat) (a1 : Nat) (i2 : Int32) (i3 : Int32) (i4 : Int32) (h : AH), J x qX13_lay ZV 35 [(0, rv (zx x) a0), (1, rv (zx x) a1), (2, .int i2), (3, .int i3), (4, .int i4)] [] h (X13_lay_B35 n a0 a1 i2 i3 i4 h) := by
  intro n
  induction n with
  | zero => intro a0 a1 i2 i3 i4 h; exact J_none
  | succ n ih =>
    intro a0 a1 i2 i3 i4 h
    unfold X13_lay_B35
    refine J_iload 4 dX13_lay_35 rfl ?_
    refine J_bipush (v := nI 7) dX13_lay_37 rfl ?_
    refine J_icmp_ge (tgt := 56) dX13_lay_39 rfl ?_ ?_
    · exact J_sub [0, 1, 2, 3] rfl (jX13_lay_B56 x a0 a1 i2 i3 h)
    · refine J_aload_n 0 dX13_lay_42 rv_is rfl ?_
      refine J_G (fun g1 => ?_)
      refine J_getR kc_13 2 (by decide) rfl rfl kw_6_201 dX13_lay_43 g1 ?_
      refine J_iload 4 dX13_lay_46 rfl ?_
      refine J_iconst (v := nI 0) dX13_lay_48 rfl ?_
      refine J_G (fun g2 => ?_)
      refine J_G (fun g3 => ?_)
      refine J_iast dX13_lay_49 g2 g3 ?_
      refine J_LTh (fun h4 => ?_)
      refine J_iincL (u := i4 + nI 1) 4 dX13_lay_50 rfl rfl (by decide) (SD.a (lvr := [(0, rv (zx x) a0), (1, rv (zx x) a1), (2, .int i2), (3, .int i3)]) [0, 1, 2, 3] rfl rfl) (fun v5 => ?_)
      refine J_goto (tgt := 35) dX13_lay_53 rfl ?_
      exact J_sub [1, 2, 3, 4, 0] rfl (ih a0 a1 i2 i3 v5 h4)
def X13_lay_B32 (a0 : Nat) (a1 : Nat) (i2 : Int32) (i3 : Int32) (h : AH) : Option (Unit × AH) :=
  X13_lay_B35 FU a0 a1 i2 i3 (nI 0) h
theorem jX13_lay_B32 (x : CT) (a0 : Nat) (a1 : Nat) (i2 : Int32) (i3 : Int32) (h : AH) : J x qX13_lay ZV 32 [(0, rv (zx x) a0), (1, rv (zx x) a1), (2, .int i2), (3, .int i3)] [] h (X13_lay_B32 a0 a1 i2 i3 h) := by
  unfold X13_lay_B32
  refine J_iconst (v := nI 0) dX13_lay_32 rfl ?_
  refine J_istore dX13_lay_33 (by decide) (SD.a (lvr := [(0, rv (zx x) a0), (1, rv (zx x) a1), (2, .int i2), (3, .int i3)]) [0, 1, 2, 3] rfl rfl) ?_
  exact J_sub [1, 2, 3, 4, 0] rfl (jX13_lay_B35 x FU a0 a1 i2 i3 (nI 0) h)
def X13_lay_B3 : Nat → Nat → Nat → Int32 → Int32 → Int32 → AH → Option (Unit × AH)
  | 0, _, _, _, _, _, _ => none
  | n + 1, a0, a1, i2, i3, i4, h =>
    if (nI 42) ≤ i4 then (
      X13_lay_B32 a0 a1 i2 i3 h
    ) else (
      G (xc h a0 = 13) <|
      G (xc h (xR h a0 0) = 19) <|
      G (gx i4 (xz h (xR h a0 0))) <|
      LT (pI h (xR h a0 0) i4.toNatClampNeg (vp_nar .boolean (nI 0))) fun h4 =>
      G (xc h4 a0 = 13) <|
      G (xc h4 (xR h4 a0 1) = 19) <|
      G (gx i4 (xz h4 (xR h4 a0 1))) <|
      LT (pI h4 (xR h4 a0 1) i4.toNatClampNeg (vp_nar .boolean (nI 0))) fun h8 =>
      LT (i4 + nI 1) fun v9 =>
      X13_lay_B3 n a0 a1 i2 i3 v9 h8
    )
theorem jX13_lay_B3 (x : CT) : ∀ (n : Nat) (a0 : Nat) (a1 : Nat) (i2 : Int32) (i3 : Int32) (i4 : Int32) (h : AH), J x qX13_lay ZV 3 [(0, rv (zx x) a0), (1, rv (zx x) a1), (2, .int i2), (3, .int i3), (4, .int i4)] [] h (X13_lay_B3 n a0 a1 i2 i3 i4 h) := by
  intro n
  induction n with
  | zero => intro a0 a1 i2 i3 i4 h; exact J_none
  | succ n ih =>
    intro a0 a1 i2 i3 i4 h
    unfold X13_lay_B3
    refine J_iload 4 dX13_lay_3 rfl ?_
    refine J_bipush (v := nI 42) dX13_lay_5 rfl ?_
    refine J_icmp_ge (tgt := 32) dX13_lay_7 rfl ?_ ?_
    · exact J_sub [0, 1, 2, 3] rfl (jX13_lay_B32 x a0 a1 i2 i3 h)
    · refine J_aload_n 0 dX13_lay_10 rv_is rfl ?_
      refine J_G (fun g1 => ?_)
      refine J_getR kc_13 0 (by decide) rfl rfl kw_6_197 dX13_lay_11 g1 ?_
      refine J_iload 4 dX13_lay_14 rfl ?_
      refine J_iconst (v := nI 0) dX13_lay_16 rfl ?_
      refine J_G (fun g2 => ?_)
      refine J_G (fun g3 => ?_)
      refine J_zast dX13_lay_17 g2 g3 ?_
      refine J_LTh (fun h4 => ?_)
      refine J_aload_n 0 dX13_lay_18 rv_is rfl ?_
      refine J_G (fun g5 => ?_)
      refine J_getR kc_13 1 (by decide) rfl rfl kw_6_199 dX13_lay_19 g5 ?_
      refine J_iload 4 dX13_lay_22 rfl ?_
      refine J_iconst (v := nI 0) dX13_lay_24 rfl ?_
      refine J_G (fun g6 => ?_)
      refine J_G (fun g7 => ?_)
      refine J_zast dX13_lay_25 g6 g7 ?_
      refine J_LTh (fun h8 => ?_)
      refine J_iincL (u := i4 + nI 1) 4 dX13_lay_26 rfl rfl (by decide) (SD.a (lvr := [(0, rv (zx x) a0), (1, rv (zx x) a1), (2, .int i2), (3, .int i3)]) [0, 1, 2, 3] rfl rfl) (fun v9 => ?_)
      refine J_goto (tgt := 3) dX13_lay_29 rfl ?_
      exact J_sub [1, 2, 3, 4, 0] rfl (ih a0 a1 i2 i3 v9 h8)
def X13_lay_f (a0 : Nat) (a1 : Nat) (i2 : Int32) (i3 : Int32) (h : AH) : Option (Unit × AH) :=
  X13_lay_B3 FU a0 a1 i2 i3 (nI 0) h
theorem jX13_lay (x : CT) (a0 : Nat) (a1 : Nat) (i2 : Int32) (i3 : Int32) (h : AH) : J x qX13_lay ZV 0 [(0, rv (zx x) a0), (1, rv (zx x) a1), (2, .int i2), (3, .int i3)] [] h (X13_lay_f a0 a1 i2 i3 h) := by
  unfold X13_lay_f
  refine J_iconst (v := nI 0) dX13_lay_0 rfl ?_
  refine J_istore dX13_lay_1 (by decide) (SD.a (lvr := [(0, rv (zx x) a0), (1, rv (zx x) a1), (2, .int i2), (3, .int i3)]) [0, 1, 2, 3] rfl rfl) ?_
  exact J_sub [1, 2, 3, 4, 0] rfl (jX13_lay_B3 x FU a0 a1 i2 i3 (nI 0) h)
theorem ctX13_lay (l : Launch) (w : WT) (a0 : Nat) (a1 : Nat) (i2 : Int32) (i3 : Int32) (h : AH) : CM l w yX13_lay cX13_lay 9 none 0 0 KV [rv (w.1) a0, rv (w.1) a1, .int i2, .int i3] h (X13_lay_f a0 a1 i2 i3 h) :=
  CM.of (by decide +kernel) (by simp [lg_sl, rv_cat, cat_I, cat_L, cat_S]) (lv := [(0, rv (w.1) a0), (1, rv (w.1) a1), (2, .int i2), (3, .int i3)]) (by simp [lv_args, rv_cat, cat_I, cat_L, cat_S]) (fun x hx => by subst hx; exact jX13_lay x a0 a1 i2 i3 h)
-- FallTrialsModel$Harm.isDown(II)Z
abbrev qX13_isDown : MT := (cX13_isDown, RX13, "isDown", (some .boolean), 0, 0, 3)
def X13_isDown_f (a0 : Nat) (i1 : Int32) (i2 : Int32) (h : AH) : Option (Int32 × AH) :=
  G (xc h a0 = 13) <|
  G (xc h (xR h a0 2) = 16) <|
  G (gx i1 (xz h (xR h a0 2))) <|
  if (((xI h (xR h a0 2) i1.toNatClampNeg) >>> (i2 &&& 31)) &&& (nI 1)) = (nI 1) then (
    some (nI 1, h)
  ) else (
    some (nI 0, h)
  )
theorem jX13_isDown (x : CT) (a0 : Nat) (i1 : Int32) (i2 : Int32) (h : AH) : J x qX13_isDown ZI 0 [(0, rv (zx x) a0), (1, .int i1), (2, .int i2)] [] h (X13_isDown_f a0 i1 i2 h) := by
  unfold X13_isDown_f
  refine J_aload_n 0 dX13_isDown_0 rv_is rfl ?_
  refine J_G (fun g1 => ?_)
  refine J_getR kc_13 2 (by decide) rfl rfl kw_6_201 dX13_isDown_1 g1 ?_
  refine J_iload_n 1 dX13_isDown_4 rfl ?_
  refine J_G (fun g2 => ?_)
  refine J_G (fun g3 => ?_)
  refine J_iald dX13_isDown_5 g2 g3 ?_
  refine J_iload_n 2 dX13_isDown_6 rfl ?_
  refine J_ishr dX13_isDown_7 ?_
  refine J_iconst (v := nI 1) dX13_isDown_8 rfl ?_
  refine J_iand dX13_isDown_9 ?_
  refine J_iconst (v := nI 1) dX13_isDown_10 rfl ?_
  refine J_icmp_ne (tgt := 18) dX13_isDown_11 rfl ?_ ?_
  · refine J_iconst (v := nI 0) dX13_isDown_18 rfl ?_
    exact J_zret dX13_isDown_19 (by decide)
  · refine J_iconst (v := nI 1) dX13_isDown_14 rfl ?_
    refine J_goto (tgt := 19) dX13_isDown_15 rfl ?_
    exact J_zret dX13_isDown_19 (by decide)
theorem ctX13_isDown (l : Launch) (w : WT) (a0 : Nat) (i1 : Int32) (i2 : Int32) (h : AH) : CM l w yX13_isDown cX13_isDown 3 (some .boolean) 0 0 KI [rv (w.1) a0, .int i1, .int i2] h (X13_isDown_f a0 i1 i2 h) :=
  CM.of (by decide +kernel) (by simp [lg_sl, rv_cat, cat_I, cat_L, cat_S]) (lv := [(0, rv (w.1) a0), (1, .int i1), (2, .int i2)]) (by simp [lv_args, rv_cat, cat_I, cat_L, cat_S]) (fun x hx => by subst hx; exact jX13_isDown x a0 i1 i2 h)
