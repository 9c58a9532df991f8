-- FallTrialsModel.sets()I
abbrev qX15_sets : MT := (cX15_sets, RX15, "sets", (some .int), 3, 70, 4)
def X15_sets_B38 (k8 : (Nat → Int32 → Int32 → AH → Option (Int32 × AH))) (a0 : Nat) (i1 : Int32) (i2 : Int32) (h : AH) : Option (Int32 × AH) :=
  LT (i2 + nI 1) fun v1 =>
  k8 a0 i1 v1 h
theorem jX15_sets_B38 (x : CT) (k8 : (Nat → Int32 → Int32 → AH → Option (Int32 × AH))) (hk8 : ∀ (a0 : Nat) (i1 : Int32) (i2 : Int32) (h : AH), J x qX15_sets ZI 8 [(0, rv (zx x) a0), (1, .int i1), (2, .int i2)] [] h (k8 a0 i1 i2 h)) (a0 : Nat) (i1 : Int32) (i2 : Int32) (h : AH) : J x qX15_sets ZI 38 [(0, rv (zx x) a0), (1, .int i1), (2, .int i2)] [] h (X15_sets_B38 k8 a0 i1 i2 h) := by
  unfold X15_sets_B38
  refine J_iincL (u := i2 + nI 1) 2 dX15_sets_38 rfl rfl (by decide) (SD.a (lvr := [(0, rv (zx x) a0), (1, .int i1)]) [0, 1] rfl rfl) (fun v1 => ?_)
  refine J_goto (tgt := 8) dX15_sets_41 rfl ?_
  exact J_sub [1, 2, 0] rfl (hk8 a0 i1 v1 h)
def X15_sets_B22 (k8 : (Nat → Int32 → Int32 → AH → Option (Int32 × AH))) : Nat → Nat → Int32 → Int32 → Int32 → AH → Option (Int32 × AH)
  | 0, _, _, _, _, _ => none
  | n + 1, a0, i1, i2, i3, h =>
    if i3 = 0 then (
      X15_sets_B38 k8 a0 i1 i2 h
    ) else (
      LT (i1 + nI 1) fun v1 =>
      G (xc h a0 = 15) <|
      BN (X15_goesOn_f a0 i2 h) fun v4 h3 =>
      X15_sets_B22 k8 n a0 v1 i2 v4 h3
    )
theorem jX15_sets_B22 (x : CT) (k8 : (Nat → Int32 → Int32 → AH → Option (Int32 × AH))) (hk8 : ∀ (a0 : Nat) (i1 : Int32) (i2 : Int32) (h : AH), J x qX15_sets ZI 8 [(0, rv (zx x) a0), (1, .int i1), (2, .int i2)] [] h (k8 a0 i1 i2 h)) : ∀ (n : Nat) (a0 : Nat) (i1 : Int32) (i2 : Int32) (i3 : Int32) (h : AH), J x qX15_sets ZI 22 [(0, rv (zx x) a0), (1, .int i1), (2, .int i2), (3, .int i3)] [] h (X15_sets_B22 k8 n a0 i1 i2 i3 h) := by
  intro n
  induction n with
  | zero => intro a0 i1 i2 i3 h; exact J_none
  | succ n ih =>
    intro a0 i1 i2 i3 h
    unfold X15_sets_B22
    refine J_iload_n 3 dX15_sets_22 rfl ?_
    refine J_if_eq (tgt := 38) dX15_sets_23 rfl ?_ ?_
    · exact J_sub [0, 1, 2] rfl (jX15_sets_B38 x k8 hk8 a0 i1 i2 h)
    · refine J_iincL (u := i1 + nI 1) 1 dX15_sets_26 rfl rfl (by decide) (SD.c (lvr := [(0, rv (zx x) a0), (2, .int i2)]) [0, 2] rfl rfl 0 rfl rfl rv_cat) (fun v1 => ?_)
      refine J_aload_n 1 dX15_sets_29 rv_is rfl ?_
      refine J_iload_n 2 dX15_sets_30 rfl ?_
      refine J_G (fun g2 => ?_)
      refine J.callV (n := 1) (As := [.int i2]) kc_15 (ctX15_goesOn (lx x) (wx x) a0 i2 h) kw_9_65 kw_9_62 kw_9_64 kp_56 kw_1_13 (by decide +kernel) rfl (by decide) (Nat.zero_le _) rfl dX15_sets_31 g2 (fun v4 h3 => ?_)
      show J x _ _ 34 _ [.int v4] h3 _
      refine J_istore_n dX15_sets_34 (by decide) (SD.a (lvr := [(1, .int v1), (0, rv (zx x) a0), (2, .int i2)]) [0, 1, 2] rfl rfl) ?_
      refine J_goto (tgt := 22) dX15_sets_35 rfl ?_
      exact J_sub [2, 1, 3, 0] rfl (ih a0 v1 i2 v4 h3)
def X15_sets_B8 : Nat → Nat → Int32 → Int32 → AH → Option (Int32 × AH)
  | 0, _, _, _, _ => none
  | n + 1, a0, i1, i2, h =>
    G (xc h a0 = 15) <|
    BN (X15_inPurse_f a0 h) fun v3 h2 =>
    if v3 < i2 then (
      some (i1, h2)
    ) else (
      G (xc h2 a0 = 15) <|
      BN (X15_begins_f a0 i2 h2) fun v6 h5 =>
      X15_sets_B22 (X15_sets_B8 n) FU a0 i1 i2 v6 h5
    )
theorem jX15_sets_B8 (x : CT) : ∀ (n : Nat) (a0 : Nat) (i1 : Int32) (i2 : Int32) (h : AH), J x qX15_sets ZI 8 [(0, rv (zx x) a0), (1, .int i1), (2, .int i2)] [] h (X15_sets_B8 n a0 i1 i2 h) := by
  intro n
  induction n with
  | zero => intro a0 i1 i2 h; exact J_none
  | succ n ih =>
    intro a0 i1 i2 h
    unfold X15_sets_B8
    refine J_iload_n 2 dX15_sets_8 rfl ?_
    refine J_aload_n 0 dX15_sets_9 rv_is rfl ?_
    refine J_G (fun g1 => ?_)
    refine J.callV (n := 0) (As := []) kc_15 (ctX15_inPurse (lx x) (wx x) a0 h) kw_8_134 kw_8_131 kw_8_133 kp_27 kw_1_13 (by decide +kernel) rfl (by decide) (by simp [rv_cat, cat_I, cat_L, cat_S]) rfl dX15_sets_10 g1 (fun v3 h2 => ?_)
    show J x _ _ 13 _ [.int v3, .int i2] h2 _
    refine J_icmp_gt (tgt := 44) dX15_sets_13 rfl ?_ ?_
    · refine J_iload_n 1 dX15_sets_44 rfl ?_
      exact J_iret dX15_sets_45
    · refine J_aload_n 0 dX15_sets_16 rv_is rfl ?_
      refine J_iload_n 2 dX15_sets_17 rfl ?_
      refine J_G (fun g4 => ?_)
      refine J.callV (n := 1) (As := [.int i2]) kc_15 (ctX15_begins (lx x) (wx x) a0 i2 h2) kw_9_57 kw_9_54 kw_9_56 kp_54 kw_1_13 (by decide +kernel) rfl (by decide) (Nat.zero_le _) rfl dX15_sets_18 g4 (fun v6 h5 => ?_)
      show J x _ _ 21 _ [.int v6] h5 _
      refine J_istore_n dX15_sets_21 (by decide) (SD.a (lvr := [(0, rv (zx x) a0), (1, .int i1), (2, .int i2)]) [0, 1, 2] rfl rfl) ?_
      exact J_sub [1, 2, 3, 0] rfl (jX15_sets_B22 x (X15_sets_B8 n) ih FU a0 i1 i2 v6 h5)
def X15_sets_f (a0 : Nat) (h : AH) : Option (Int32 × AH) :=
  G (xc h a0 = 15) <|
  BN (X15_allFalls_f a0 h) fun _ h2 =>
  X15_sets_B8 FU a0 (nI 0) (nI 1) h2
theorem jX15_sets (x : CT) (a0 : Nat) (h : AH) : J x qX15_sets ZI 0 [(0, rv (zx x) a0)] [] h (X15_sets_f a0 h) := by
  unfold X15_sets_f
  refine J_aload_n 0 dX15_sets_0 rv_is rfl ?_
  refine J_G (fun g1 => ?_)
  refine J.callV (n := 0) (As := []) kc_15 (ctX15_allFalls (lx x) (wx x) a0 h) kw_9_53 kw_9_50 kw_9_52 kp_53 kw_1_13 (by decide +kernel) rfl (by decide) (Nat.zero_le _) rfl dX15_sets_1 g1 (fun _ h2 => ?_)
  show J x _ _ 4 _ [] h2 _
  refine J_iconst (v := nI 0) dX15_sets_4 rfl ?_
  refine J_istore_n dX15_sets_5 (by decide) (SD.c (lvr := [(0, rv (zx x) a0)]) [0] rfl rfl 0 rfl rfl rv_cat) ?_
  refine J_iconst (v := nI 1) dX15_sets_6 rfl ?_
  refine J_istore_n dX15_sets_7 (by decide) (SD.a (lvr := [(1, .int (nI 0)), (0, rv (zx x) a0)]) [0, 1] rfl rfl) ?_
  exact J_sub [2, 1, 0] rfl (jX15_sets_B8 x FU a0 (nI 0) (nI 1) h2)
theorem ctX15_sets (l : Launch) (w : WT) (a0 : Nat) (h : AH) : CM l w yX15_sets cX15_sets 4 (some .int) 3 70 KI [rv (w.1) a0] h (X15_sets_f a0 h) :=
  CM.of (by decide +kernel) (by simp [lg_sl, rv_cat, cat_I, cat_L, cat_S]) (lv := [(0, rv (w.1) a0)]) (by simp [lv_args, rv_cat, cat_I, cat_L, cat_S]) (fun x hx => by subst hx; exact jX15_sets x a0 h)
-- FallTrials$Course.fill(II)V
abbrev qX2_fill : MT := (cX2_fill, RX2, "fill", none, 2, 59, 10)
def X2_fill_B168 : Nat → Nat → Int32 → Int64 → Int32 → Int32 → AH → Option (Unit × AH)
  | 0, _, _, _, _, _, _ => none
  | n + 1, a0, i1, l3, i5, i7, h =>
    G (xc h a0 = 2) <|
    G (xc h (xR h a0 8) = 0) <|
    if (xI h (xR h a0 8) 1) ≤ i7 then (
      some ((), h)
    ) else (
      LT ((i1 * (nI 10)) + i7) fun v3 =>
      G (xc h a0 = 2) <|
      G (xc h (xR h a0 2) = 17) <|
      G (gx v3 (xz h (xR h a0 2))) <|
      G (xc h (xR h a0 0) = 17) <|
      G (gx (i5 + i7) (xz h (xR h a0 0))) <|
      G (gx v3 (xz h (xR h a0 2))) <|
      LT (pL h (xR h a0 2) v3.toNatClampNeg (((xL h (xR h a0 2) v3.toNatClampNeg) &&& (l3 ^^^ (-1))) ||| (xL h (xR h a0 0) (i5 + i7).toNatClampNeg))) fun h10 =>
      LT (i7 + nI 1) fun v11 =>
      X2_fill_B168 n a0 i1 l3 i5 v11 h10
    )
theorem jX2_fill_B168 (x : CT) : ∀ (n : Nat) (a0 : Nat) (i1 : Int32) (l3 : Int64) (i5 : Int32) (i7 : Int32) (h : AH), J x qX2_fill ZV 168 [(0, rv (zx x) a0), (1, .int i1), (3, .long l3), (5, .int i5), (7, .int i7)] [] h (X2_fill_B168 n a0 i1 l3 i5 i7 h) := by
  intro n
  induction n with
  | zero => intro a0 i1 l3 i5 i7 h; exact J_none
  | succ n ih =>
    intro a0 i1 l3 i5 i7 h
    unfold X2_fill_B168
    refine J_iload 4 dX2_fill_168 rfl ?_
    refine J_aload_n 0 dX2_fill_170 rv_is rfl ?_
    refine J_G (fun g1 => ?_)
    refine J_getR kc_2 8 (by decide) rfl rfl kw_2_187 dX2_fill_171 g1 ?_
    refine J_G (fun g2 => ?_)
    refine J_getI kc_0 1 (by decide) rfl rfl kw_1_112 dX2_fill_174 g2 ?_
    refine J_icmp_ge (tgt := 226) dX2_fill_177 rfl ?_ ?_
    · exact J_vret dX2_fill_226
    · refine J_iload_n 1 dX2_fill_180 rfl ?_
      refine J_bipush (v := nI 10) dX2_fill_181 rfl ?_
      refine J_imul dX2_fill_183 ?_
      refine J_iload 4 dX2_fill_184 rfl ?_
      refine J_iadd dX2_fill_186 ?_
      refine J_LTi (fun v3 => ?_)
      refine J_istore dX2_fill_187 (by decide) (SD.a (lvr := [(0, rv (zx x) a0), (1, .int i1), (3, .long l3), (5, .int i5), (7, .int i7)]) [0, 1, 2, 3, 4] rfl rfl) ?_
      refine J_aload_n 1 dX2_fill_189 rv_is rfl ?_
      refine J_G (fun g4 => ?_)
      refine J_getR kc_2 2 (by decide) rfl rfl kw_2_177 dX2_fill_190 g4 ?_
      refine J_iload 0 dX2_fill_193 rfl ?_
      refine J_aload_n 1 dX2_fill_195 rv_is rfl ?_
      refine J_getR kc_2 2 (by decide) rfl rfl kw_2_177 dX2_fill_196 g4 ?_
      refine J_iload 0 dX2_fill_199 rfl ?_
      refine J_G (fun g5 => ?_)
      refine J_G (fun g6 => ?_)
      refine J_lald dX2_fill_201 g5 g6 ?_
      refine J_lload_n 3 dX2_fill_202 rfl ?_
      refine J_ldc2 (v := (-1)) dX2_fill_203 kw_4_146 ?_
      refine J_lxor dX2_fill_206 ?_
      refine J_land dX2_fill_207 ?_
      refine J_aload_n 1 dX2_fill_208 rv_is rfl ?_
      refine J_getR kc_2 0 (by decide) rfl rfl kw_2_174 dX2_fill_209 g4 ?_
      refine J_iload 4 dX2_fill_212 rfl ?_
      refine J_iload 5 dX2_fill_214 rfl ?_
      refine J_iadd dX2_fill_216 ?_
      refine J_G (fun g7 => ?_)
      refine J_G (fun g8 => ?_)
      refine J_lald dX2_fill_217 g7 g8 ?_
      refine J_lor dX2_fill_218 ?_
      refine J_G (fun g9 => ?_)
      refine J_last dX2_fill_219 g5 g9 ?_
      refine J_LTh (fun h10 => ?_)
      refine J_iincL (u := i7 + nI 1) 5 dX2_fill_220 rfl rfl (by decide) (SD.a (lvr := [(0, rv (zx x) a0), (1, .int i1), (3, .long l3), (5, .int i5)]) [1, 2, 3, 4] rfl rfl) (fun v11 => ?_)
      refine J_goto (tgt := 168) dX2_fill_223 rfl ?_
      exact J_sub [1, 2, 3, 4, 0] rfl (ih a0 i1 l3 i5 v11 h10)
def X2_fill_B159 (a0 : Nat) (i1 : Int32) (i2 : Int32) (l3 : Int64) (i5 : Int32) (h : AH) : Option (Unit × AH) :=
  G (xc h a0 = 2) <|
  BN (X2_addNow_f a0 i1 i2 h) fun _ h2 =>
  X2_fill_B168 FU a0 i1 l3 i5 (nI 0) h2
theorem jX2_fill_B159 (x : CT) (a0 : Nat) (i1 : Int32) (i2 : Int32) (l3 : Int64) (i5 : Int32) (h : AH) : J x qX2_fill ZV 159 [(0, rv (zx x) a0), (1, .int i1), (2, .int i2), (3, .long l3), (5, .int i5)] [] h (X2_fill_B159 a0 i1 i2 l3 i5 h) := by
  unfold X2_fill_B159
  refine J_aload_n 0 dX2_fill_159 rv_is rfl ?_
  refine J_iload_n 1 dX2_fill_160 rfl ?_
  refine J_iload_n 2 dX2_fill_161 rfl ?_
  refine J_G (fun g1 => ?_)
  refine J.callV (n := 2) (As := [.int i1, .int i2]) kc_2 (ctX2_addNow (lx x) (wx x) a0 i1 i2 h) kw_4_169 kw_4_166 kw_4_167 kw_4_168 kw_1_11 (by decide +kernel) rfl (by decide) (Nat.zero_le _) rfl dX2_fill_162 g1 (fun _ h2 => ?_)
  show J x _ _ 165 _ [] h2 _
  refine J_iconst (v := nI 0) dX2_fill_165 rfl ?_
  refine J_istore dX2_fill_166 (by decide) (SD.a (lvr := [(0, rv (zx x) a0), (1, .int i1), (3, .long l3), (5, .int i5)]) [0, 1, 3, 4] rfl rfl) ?_
  exact J_sub [1, 2, 3, 4, 0] rfl (jX2_fill_B168 x FU a0 i1 l3 i5 (nI 0) h2)
def X2_fill_B148 (a0 : Nat) (i1 : Int32) (i2 : Int32) (l3 : Int64) (i5 : Int32) (h : AH) : Option (Unit × AH) :=
  if i2 ≤ 0 then (
    X2_fill_B159 a0 i1 i2 l3 i5 h
  ) else (
    G (xc h a0 = 2) <|
    BN (X2_addNext_f a0 i1 i2 l3 h) fun _ h2 =>
    X2_fill_B159 a0 i1 i2 l3 i5 h2
  )
theorem jX2_fill_B148 (x : CT) (a0 : Nat) (i1 : Int32) (i2 : Int32) (l3 : Int64) (i5 : Int32) (h : AH) : J x qX2_fill ZV 148 [(0, rv (zx x) a0), (1, .int i1), (2, .int i2), (3, .long l3), (5, .int i5)] [] h (X2_fill_B148 a0 i1 i2 l3 i5 h) := by
  unfold X2_fill_B148
  refine J_iload_n 2 dX2_fill_148 rfl ?_
  refine J_if_le (tgt := 159) dX2_fill_149 rfl ?_ ?_
  · exact (jX2_fill_B159 x a0 i1 i2 l3 i5 h)
  · refine J_aload_n 0 dX2_fill_152 rv_is rfl ?_
    refine J_iload_n 1 dX2_fill_153 rfl ?_
    refine J_iload_n 2 dX2_fill_154 rfl ?_
    refine J_lload_n 3 dX2_fill_155 rfl ?_
    refine J_G (fun g1 => ?_)
    refine J.callV (n := 3) (As := [.int i1, .int i2, .long l3]) kc_2 (ctX2_addNext (lx x) (wx x) a0 i1 i2 l3 h) kw_4_157 kw_4_154 kw_4_155 kw_4_156 kw_1_11 (by decide +kernel) rfl (by decide) (Nat.zero_le _) rfl dX2_fill_156 g1 (fun _ h2 => ?_)
    show J x _ _ 159 _ [] h2 _
    exact (jX2_fill_B159 x a0 i1 i2 l3 i5 h2)
def X2_fill_B128 (k57 : (Nat → Int32 → Int32 → Int64 → Int32 → Int32 → Int32 → AH → Option (Unit × AH))) (a0 : Nat) (i1 : Int32) (i2 : Int32) (l3 : Int64) (i5 : Int32) (i6 : Int32) (i7 : Int32) (l8 : Int64) (h : AH) : Option (Unit × AH) :=
  G (xc h a0 = 2) <|
  G (xc h (xR h a0 0) = 17) <|
  G (gx (i5 + i7) (xz h (xR h a0 0))) <|
  LT (pL h (xR h a0 0) (i5 + i7).toNatClampNeg (l8 &&& l3)) fun h4 =>
  LT (i7 + nI 1) fun v5 =>
  k57 a0 i1 i2 l3 i5 i6 v5 h4
theorem jX2_fill_B128 (x : CT) (k57 : (Nat → Int32 → Int32 → Int64 → Int32 → Int32 → Int32 → AH → Option (Unit × AH))) (hk57 : ∀ (a0 : Nat) (i1 : Int32) (i2 : Int32) (l3 : Int64) (i5 : Int32) (i6 : Int32) (i7 : Int32) (h : AH), J x qX2_fill ZV 57 [(0, rv (zx x) a0), (1, .int i1), (2, .int i2), (3, .long l3), (5, .int i5), (6, .int i6), (7, .int i7)] [] h (k57 a0 i1 i2 l3 i5 i6 i7 h)) (a0 : Nat) (i1 : Int32) (i2 : Int32) (l3 : Int64) (i5 : Int32) (i6 : Int32) (i7 : Int32) (l8 : Int64) (h : AH) : J x qX2_fill ZV 128 [(0, rv (zx x) a0), (1, .int i1), (2, .int i2), (3, .long l3), (5, .int i5), (6, .int i6), (7, .int i7), (8, .long l8)] [] h (X2_fill_B128 k57 a0 i1 i2 l3 i5 i6 i7 l8 h) := by
  unfold X2_fill_B128
  refine J_aload_n 0 dX2_fill_128 rv_is rfl ?_
  refine J_G (fun g1 => ?_)
  refine J_getR kc_2 0 (by decide) rfl rfl kw_2_174 dX2_fill_129 g1 ?_
  refine J_iload 4 dX2_fill_132 rfl ?_
  refine J_iload 6 dX2_fill_134 rfl ?_
  refine J_iadd dX2_fill_136 ?_
  refine J_lload 7 dX2_fill_137 rfl ?_
  refine J_lload_n 3 dX2_fill_139 rfl ?_
  refine J_land dX2_fill_140 ?_
  refine J_G (fun g2 => ?_)
  refine J_G (fun g3 => ?_)
  refine J_last dX2_fill_141 g2 g3 ?_
  refine J_LTh (fun h4 => ?_)
  refine J_iincL (u := i7 + nI 1) 6 dX2_fill_142 rfl rfl (by decide) (SD.a (lvr := [(0, rv (zx x) a0), (1, .int i1), (2, .int i2), (3, .long l3), (5, .int i5), (6, .int i6)]) [0, 1, 2, 3, 4, 5] rfl rfl) (fun v5 => ?_)
  refine J_goto (tgt := 57) dX2_fill_145 rfl ?_
  exact J_sub [1, 2, 3, 4, 5, 6, 0] rfl (hk57 a0 i1 i2 l3 i5 i6 v5 h4)
def X2_fill_B96 (k57 : (Nat → Int32 → Int32 → Int64 → Int32 → Int32 → Int32 → AH → Option (Unit × AH))) (a0 : Nat) (i1 : Int32) (i2 : Int32) (l3 : Int64) (i5 : Int32) (i6 : Int32) (i7 : Int32) (l8 : Int64) (h : AH) : Option (Unit × AH) :=
  G (xc h a0 = 2) <|
  G (xc h (xR h a0 7) = 10) <|
  if (((xI h (xR h a0 7) 3) >>> (i7 &&& 31)) &&& (nI 1)) = 0 then (
    X2_fill_B128 k57 a0 i1 i2 l3 i5 i6 i7 l8 h
  ) else (
    G (xc h a0 = 2) <|
    G (xc h (xR h a0 2) = 17) <|
    G (gx ((i1 * (nI 10)) + i7) (xz h (xR h a0 2))) <|
    LT (l8 ||| (xL h (xR h a0 2) ((i1 * (nI 10)) + i7).toNatClampNeg)) fun w6 =>
    X2_fill_B128 k57 a0 i1 i2 l3 i5 i6 i7 w6 h
  )
theorem jX2_fill_B96 (x : CT) (k57 : (Nat → Int32 → Int32 → Int64 → Int32 → Int32 → Int32 → AH → Option (Unit × AH))) (hk57 : ∀ (a0 : Nat) (i1 : Int32) (i2 : Int32) (l3 : Int64) (i5 : Int32) (i6 : Int32) (i7 : Int32) (h : AH), J x qX2_fill ZV 57 [(0, rv (zx x) a0), (1, .int i1), (2, .int i2), (3, .long l3), (5, .int i5), (6, .int i6), (7, .int i7)] [] h (k57 a0 i1 i2 l3 i5 i6 i7 h)) (a0 : Nat) (i1 : Int32) (i2 : Int32) (l3 : Int64) (i5 : Int32) (i6 : Int32) (i7 : Int32) (l8 : Int64) (h : AH) : J x qX2_fill ZV 96 [(0, rv (zx x) a0), (1, .int i1), (2, .int i2), (3, .long l3), (5, .int i5), (6, .int i6), (7, .int i7), (8, .long l8)] [] h (X2_fill_B96 k57 a0 i1 i2 l3 i5 i6 i7 l8 h) := by
  unfold X2_fill_B96
  refine J_aload_n 0 dX2_fill_96 rv_is rfl ?_
  refine J_G (fun g1 => ?_)
  refine J_getR kc_2 7 (by decide) rfl rfl kw_2_186 dX2_fill_97 g1 ?_
  refine J_G (fun g2 => ?_)
  refine J_getI kc_10 3 (by decide) rfl rfl kw_2_30 dX2_fill_100 g2 ?_
  refine J_iload 6 dX2_fill_103 rfl ?_
  refine J_ishr dX2_fill_105 ?_
  refine J_iconst (v := nI 1) dX2_fill_106 rfl ?_
  refine J_iand dX2_fill_107 ?_
  refine J_if_eq (tgt := 128) dX2_fill_108 rfl ?_ ?_
  · exact (jX2_fill_B128 x k57 hk57 a0 i1 i2 l3 i5 i6 i7 l8 h)
  · refine J_lload 7 dX2_fill_111 rfl ?_
    refine J_aload_n 0 dX2_fill_113 rv_is rfl ?_
    refine J_G (fun g3 => ?_)
    refine J_getR kc_2 2 (by decide) rfl rfl kw_2_177 dX2_fill_114 g3 ?_
    refine J_iload_n 1 dX2_fill_117 rfl ?_
    refine J_bipush (v := nI 10) dX2_fill_118 rfl ?_
    refine J_imul dX2_fill_120 ?_
    refine J_iload 6 dX2_fill_121 rfl ?_
    refine J_iadd dX2_fill_123 ?_
    refine J_G (fun g4 => ?_)
    refine J_G (fun g5 => ?_)
    refine J_lald dX2_fill_124 g4 g5 ?_
    refine J_lor dX2_fill_125 ?_
    refine J_LTl (fun w6 => ?_)
    refine J_lstore dX2_fill_126 (by decide) (SD.a (lvr := [(0, rv (zx x) a0), (1, .int i1), (2, .int i2), (3, .long l3), (5, .int i5), (6, .int i6), (7, .int i7)]) [0, 1, 2, 3, 4, 5, 6] rfl rfl) rfl ?_
    exact J_sub [1, 2, 3, 4, 5, 6, 7, 0] rfl (jX2_fill_B128 x k57 hk57 a0 i1 i2 l3 i5 i6 i7 w6 h)
def X2_fill_B57 : Nat → Nat → Int32 → Int32 → Int64 → Int32 → Int32 → Int32 → AH → Option (Unit × AH)
  | 0, _, _, _, _, _, _, _, _ => none
  | n + 1, a0, i1, i2, l3, i5, i6, i7, h =>
    G (xc h a0 = 2) <|
    G (xc h (xR h a0 8) = 0) <|
    if (xI h (xR h a0 8) 1) ≤ i7 then (
      X2_fill_B148 a0 i1 i2 l3 i5 h
    ) else (
      G (xc h a0 = 2) <|
      G (xc h (xR h a0 1) = 17) <|
      G (gx (i5 + i7) (xz h (xR h a0 1))) <|
      LT (xL h (xR h a0 1) (i5 + i7).toNatClampNeg) fun w6 =>
      if ((i6 >>> (i7 &&& 31)) &&& (nI 1)) = 0 then (
        X2_fill_B96 (X2_fill_B57 n) a0 i1 i2 l3 i5 i6 i7 w6 h
      ) else (
        X2_fill_B96 (X2_fill_B57 n) a0 i1 i2 l3 i5 i6 i7 (-1) h
      )
    )
theorem jX2_fill_B57 (x : CT) : ∀ (n : Nat) (a0 : Nat) (i1 : Int32) (i2 : Int32) (l3 : Int64) (i5 : Int32) (i6 : Int32) (i7 : Int32) (h : AH), J x qX2_fill ZV 57 [(0, rv (zx x) a0), (1, .int i1), (2, .int i2), (3, .long l3), (5, .int i5), (6, .int i6), (7, .int i7)] [] h (X2_fill_B57 n a0 i1 i2 l3 i5 i6 i7 h) := by
  intro n
  induction n with
  | zero => intro a0 i1 i2 l3 i5 i6 i7 h; exact J_none
  | succ n ih =>
    intro a0 i1 i2 l3 i5 i6 i7 h
    unfold X2_fill_B57
    refine J_iload 6 dX2_fill_57 rfl ?_
    refine J_aload_n 0 dX2_fill_59 rv_is rfl ?_
    refine J_G (fun g1 => ?_)
    refine J_getR kc_2 8 (by decide) rfl rfl kw_2_187 dX2_fill_60 g1 ?_
    refine J_G (fun g2 => ?_)
    refine J_getI kc_0 1 (by decide) rfl rfl kw_1_112 dX2_fill_63 g2 ?_
    refine J_icmp_ge (tgt := 148) dX2_fill_66 rfl ?_ ?_
    · exact J_sub [0, 1, 2, 3, 4] rfl (jX2_fill_B148 x a0 i1 i2 l3 i5 h)
    · refine J_aload_n 0 dX2_fill_69 rv_is rfl ?_
      refine J_G (fun g3 => ?_)
      refine J_getR kc_2 1 (by decide) rfl rfl kw_2_176 dX2_fill_70 g3 ?_
      refine J_iload 4 dX2_fill_73 rfl ?_
      refine J_iload 6 dX2_fill_75 rfl ?_
      refine J_iadd dX2_fill_77 ?_
      refine J_G (fun g4 => ?_)
      refine J_G (fun g5 => ?_)
      refine J_lald dX2_fill_78 g4 g5 ?_
      refine J_LTl (fun w6 => ?_)
      refine J_lstore dX2_fill_79 (by decide) (SD.a (lvr := [(0, rv (zx x) a0), (1, .int i1), (2, .int i2), (3, .long l3), (5, .int i5), (6, .int i6), (7, .int i7)]) [0, 1, 2, 3, 4, 5, 6] rfl rfl) rfl ?_
      refine J_iload 6 dX2_fill_81 rfl ?_
      refine J_iload 7 dX2_fill_83 rfl ?_
      refine J_ishr dX2_fill_85 ?_
      refine J_iconst (v := nI 1) dX2_fill_86 rfl ?_
      refine J_iand dX2_fill_87 ?_
      refine J_if_eq (tgt := 96) dX2_fill_88 rfl ?_ ?_
      · exact J_sub [1, 2, 3, 4, 5, 6, 7, 0] rfl (jX2_fill_B96 x (X2_fill_B57 n) ih a0 i1 i2 l3 i5 i6 i7 w6 h)
      · refine J_ldc2 (v := (-1)) dX2_fill_91 kw_4_146 ?_
        refine J_lstore dX2_fill_94 (by decide) (SD.a (lvr := [(0, rv (zx x) a0), (1, .int i1), (2, .int i2), (3, .long l3), (5, .int i5), (6, .int i6), (7, .int i7)]) [1, 2, 3, 4, 5, 6, 7] rfl rfl) rfl ?_
        exact J_sub [1, 2, 3, 4, 5, 6, 7, 0] rfl (jX2_fill_B96 x (X2_fill_B57 n) ih a0 i1 i2 l3 i5 i6 i7 (-1) h)
def X2_fill_B52 (a0 : Nat) (i1 : Int32) (i2 : Int32) (l3 : Int64) (i5 : Int32) (is0 : Int32) (h : AH) : Option (Unit × AH) :=
  X2_fill_B57 FU a0 i1 i2 l3 i5 is0 (nI 0) h
theorem jX2_fill_B52 (x : CT) (a0 : Nat) (i1 : Int32) (i2 : Int32) (l3 : Int64) (i5 : Int32) (is0 : Int32) (h : AH) : J x qX2_fill ZV 52 [(0, rv (zx x) a0), (1, .int i1), (2, .int i2), (3, .long l3), (5, .int i5)] [.int is0] h (X2_fill_B52 a0 i1 i2 l3 i5 is0 h) := by
  unfold X2_fill_B52
  refine J_istore dX2_fill_52 (by decide) (SD.a (lvr := [(0, rv (zx x) a0), (1, .int i1), (2, .int i2), (3, .long l3), (5, .int i5)]) [0, 1, 2, 3, 4] rfl rfl) ?_
  refine J_iconst (v := nI 0) dX2_fill_54 rfl ?_
  refine J_istore dX2_fill_55 (by decide) (SD.a (lvr := [(6, .int is0), (0, rv (zx x) a0), (1, .int i1), (2, .int i2), (3, .long l3), (5, .int i5)]) [0, 1, 2, 3, 4, 5] rfl rfl) ?_
  exact J_sub [2, 3, 4, 5, 6, 1, 0] rfl (jX2_fill_B57 x FU a0 i1 i2 l3 i5 is0 (nI 0) h)
def X2_fill_f (a0 : Nat) (i1 : Int32) (i2 : Int32) (h : AH) : Option (Unit × AH) :=
  G (xc h a0 = 2) <|
  G (xc h (xR h a0 9) = 3) <|
  G (xc h (xR h (xR h a0 9) 2) = 17) <|
  G (gx ((i1 * (nI 7)) + i2) (xz h (xR h (xR h a0 9) 2))) <|
  LT ((xL h (xR h (xR h a0 9) 2) ((i1 * (nI 7)) + i2).toNatClampNeg) ^^^ (-1)) fun w5 =>
  BN (X11_cell_f i2 i1 h) fun v7 h6 =>
  LT (v7 * (nI 10)) fun v8 =>
  if i2 = 0 then (
    G (xc h6 a0 = 2) <|
    G (xc h6 (xR h6 a0 7) = 10) <|
    G (xc h6 (xR h6 a0 8) = 0) <|
    BN (X0_factsAt_f (xR h6 a0 8) i1 (xI h6 (xR h6 a0 7) 2) h6) fun v13 h12 =>
    X2_fill_B52 a0 i1 i2 w5 v8 v13 h12
  ) else (
    X2_fill_B52 a0 i1 i2 w5 v8 (nI 0) h6
  )
theorem jX2_fill (x : CT) (a0 : Nat) (i1 : Int32) (i2 : Int32) (h : AH) : J x qX2_fill ZV 0 [(0, rv (zx x) a0), (1, .int i1), (2, .int i2)] [] h (X2_fill_f a0 i1 i2 h) := by
  unfold X2_fill_f
  refine J_aload_n 0 dX2_fill_0 rv_is rfl ?_
  refine J_G (fun g1 => ?_)
  refine J_getR kc_2 9 (by decide) rfl rfl kw_2_188 dX2_fill_1 g1 ?_
  refine J_G (fun g2 => ?_)
  refine J_getR kc_3 2 (by decide) rfl rfl kw_2_121 dX2_fill_4 g2 ?_
  refine J_iload_n 1 dX2_fill_7 rfl ?_
  refine J_bipush (v := nI 7) dX2_fill_8 rfl ?_
  refine J_imul dX2_fill_10 ?_
  refine J_iload_n 2 dX2_fill_11 rfl ?_
  refine J_iadd dX2_fill_12 ?_
  refine J_G (fun g3 => ?_)
  refine J_G (fun g4 => ?_)
  refine J_lald dX2_fill_13 g3 g4 ?_
  refine J_ldc2 (v := (-1)) dX2_fill_14 kw_4_146 ?_
  refine J_lxor dX2_fill_17 ?_
  refine J_LTl (fun w5 => ?_)
  refine J_lstore_n dX2_fill_18 (by decide) (SD.a (lvr := [(0, rv (zx x) a0), (1, .int i1), (2, .int i2)]) [0, 1, 2] rfl rfl) rfl ?_
  refine J_iload_n 3 dX2_fill_19 rfl ?_
  refine J_iload_n 2 dX2_fill_20 rfl ?_
  refine J.callSN (n := 2) (As := [.int i2, .int i1]) (ctX11_cell (lx x) (wx x) i2 i1 h) kw_4_149 kn_5 kw_4_148 kw_1_1 (by decide +kernel) rfl (by decide) (Nat.zero_le _) rfl dX2_fill_21 (fun v7 h6 => ?_)
  show J x _ _ 24 _ [.int v7] h6 _
  refine J_bipush (v := nI 10) dX2_fill_24 rfl ?_
  refine J_imul dX2_fill_26 ?_
  refine J_LTi (fun v8 => ?_)
  refine J_istore dX2_fill_27 (by decide) (SD.a (lvr := [(3, .long w5), (0, rv (zx x) a0), (1, .int i1), (2, .int i2)]) [0, 1, 2, 3] rfl rfl) ?_
  refine J_iload_n 4 dX2_fill_29 rfl ?_
  refine J_if_ne (tgt := 51) dX2_fill_30 rfl ?_ ?_
  · refine J_iconst (v := nI 0) dX2_fill_51 rfl ?_
    exact J_sub [2, 3, 4, 1, 0] rfl (jX2_fill_B52 x a0 i1 i2 w5 v8 (nI 0) h6)
  · refine J_aload_n 2 dX2_fill_33 rv_is rfl ?_
    refine J_G (fun g9 => ?_)
    refine J_getR kc_2 8 (by decide) rfl rfl kw_2_187 dX2_fill_34 g9 ?_
    refine J_iload_n 3 dX2_fill_37 rfl ?_
    refine J_aload_n 2 dX2_fill_38 rv_is rfl ?_
    refine J_getR kc_2 7 (by decide) rfl rfl kw_2_186 dX2_fill_39 g9 ?_
    refine J_G (fun g10 => ?_)
    refine J_getI kc_10 2 (by decide) rfl rfl kw_2_24 dX2_fill_42 g10 ?_
    refine J_G (fun g11 => ?_)
    refine J.callV (n := 2) (As := [.int i1, .int (xI h6 (xR h6 a0 7) 2)]) kc_0 (ctX0_factsAt (lx x) (wx x) (xR h6 a0 8) i1 (xI h6 (xR h6 a0 7) 2) h6) kw_4_153 kw_4_150 kw_4_151 kw_4_152 kw_1_2 (by decide +kernel) rfl (by decide) (Nat.zero_le _) rfl dX2_fill_45 g11 (fun v13 h12 => ?_)
    show J x _ _ 48 _ [.int v13] h12 _
    refine J_goto (tgt := 52) dX2_fill_48 rfl ?_
    exact J_sub [2, 3, 4, 1, 0] rfl (jX2_fill_B52 x a0 i1 i2 w5 v8 v13 h12)
theorem ctX2_fill (l : Launch) (w : WT) (a0 : Nat) (i1 : Int32) (i2 : Int32) (h : AH) : CM l w yX2_fill cX2_fill 10 none 2 59 KV [rv (w.1) a0, .int i1, .int i2] h (X2_fill_f a0 i1 i2 h) :=
  CM.of (by decide +kernel) (by simp [lg_sl, rv_cat, cat_I, cat_L, cat_S]) (lv := [(0, rv (w.1) a0), (1, .int i1), (2, .int i2)]) (by simp [lv_args, rv_cat, cat_I, cat_L, cat_S]) (fun x hx => by subst hx; exact jX2_fill x a0 i1 i2 h)
-- FallTrials$Course.sendWords(II)V
abbrev qX2_sendWords : MT := (cX2_sendWords, RX2, "sendWords", none, 2, 45, 11)
def X2_sendWords_B85 (a0 : Nat) (i1 : Int32) (i2 : Int32) (a3 : Nat) (l4 : Int64) (l6 : Int64) (h : AH) : Option (Unit × AH) :=
  G (xc h a0 = 2) <|
  G (xc h (xR h a0 3) = 17) <|
  G (gx i1 (xz h (xR h a0 3))) <|
  LT (pL h (xR h a0 3) i1.toNatClampNeg l4) fun h4 =>
  LT ((i1 * (nI 7)) + i2) fun v5 =>
  G (xc h4 a0 = 2) <|
  G (xc h4 (xR h4 a0 4) = 17) <|
  G (gx v5 (xz h4 (xR h4 a0 4))) <|
  LT (pL h4 (xR h4 a0 4) v5.toNatClampNeg l6) fun h9 =>
  G (xc h9 a0 = 2) <|
  G (xc h9 (xR h9 a0 9) = 3) <|
  G (xc h9 (xR h9 (xR h9 a0 9) 0) = 17) <|
  G (gx v5 (xz h9 (xR h9 (xR h9 a0 9) 0))) <|
  LT (l6 &&& ((xL h9 (xR h9 (xR h9 a0 9) 0) v5.toNatClampNeg) ^^^ (-1))) fun w14 =>
  G (xc h9 (xR h9 (xR h9 a0 9) 1) = 17) <|
  G (gx v5 (xz h9 (xR h9 (xR h9 a0 9) 1))) <|
  BN (X2_arrive_f a0 a3 (i2 + (nI 1)) (w14 &&& ((xL h9 (xR h9 (xR h9 a0 9) 1) v5.toNatClampNeg) ^^^ (-1))) h9) fun _ h17 =>
  G (xc h17 a0 = 2) <|
  G (xc h17 (xR h17 a0 9) = 3) <|
  G (xc h17 (xR h17 (xR h17 a0 9) 1) = 17) <|
  G (gx v5 (xz h17 (xR h17 (xR h17 a0 9) 1))) <|
  BN (X2_arrive_f a0 a3 ((i2 + (nI 1)) + (nI 2)) (w14 &&& (xL h17 (xR h17 (xR h17 a0 9) 1) v5.toNatClampNeg)) h17) fun _ h22 =>
  some ((), h22)
theorem jX2_sendWords_B85 (x : CT) (a0 : Nat) (i1 : Int32) (i2 : Int32) (a3 : Nat) (l4 : Int64) (l6 : Int64) (h : AH) : J x qX2_sendWords ZV 85 [(0, rv (zx x) a0), (1, .int i1), (2, .int i2), (3, rv (zx x) a3), (4, .long l4), (6, .long l6)] [] h (X2_sendWords_B85 a0 i1 i2 a3 l4 l6 h) := by
  unfold X2_sendWords_B85
  refine J_aload_n 0 dX2_sendWords_85 rv_is rfl ?_
  refine J_G (fun g1 => ?_)
  refine J_getR kc_2 3 (by decide) rfl rfl kw_2_178 dX2_sendWords_86 g1 ?_
  refine J_iload_n 1 dX2_sendWords_89 rfl ?_
  refine J_lload 4 dX2_sendWords_90 rfl ?_
  refine J_G (fun g2 => ?_)
  refine J_G (fun g3 => ?_)
  refine J_last dX2_sendWords_92 g2 g3 ?_
  refine J_LTh (fun h4 => ?_)
  refine J_iload_n 1 dX2_sendWords_93 rfl ?_
  refine J_bipush (v := nI 7) dX2_sendWords_94 rfl ?_
  refine J_imul dX2_sendWords_96 ?_
  refine J_iload_n 2 dX2_sendWords_97 rfl ?_
  refine J_iadd dX2_sendWords_98 ?_
  refine J_LTi (fun v5 => ?_)
  refine J_istore dX2_sendWords_99 (by decide) (SD.a (lvr := [(0, rv (zx x) a0), (2, .int i2), (3, rv (zx x) a3), (6, .long l6)]) [0, 2, 3, 5] rfl rfl) ?_
  refine J_aload_n 1 dX2_sendWords_101 rv_is rfl ?_
  refine J_G (fun g6 => ?_)
  refine J_getR kc_2 4 (by decide) rfl rfl kw_2_179 dX2_sendWords_102 g6 ?_
  refine J_iload 0 dX2_sendWords_105 rfl ?_
  refine J_lload 4 dX2_sendWords_107 rfl ?_
  refine J_G (fun g7 => ?_)
  refine J_G (fun g8 => ?_)
  refine J_last dX2_sendWords_109 g7 g8 ?_
  refine J_LTh (fun h9 => ?_)
  refine J_lload 4 dX2_sendWords_110 rfl ?_
  refine J_aload_n 1 dX2_sendWords_112 rv_is rfl ?_
  refine J_G (fun g10 => ?_)
  refine J_getR kc_2 9 (by decide) rfl rfl kw_2_188 dX2_sendWords_113 g10 ?_
  refine J_G (fun g11 => ?_)
  refine J_getR kc_3 0 (by decide) rfl rfl kw_2_114 dX2_sendWords_116 g11 ?_
  refine J_iload 0 dX2_sendWords_119 rfl ?_
  refine J_G (fun g12 => ?_)
  refine J_G (fun g13 => ?_)
  refine J_lald dX2_sendWords_121 g12 g13 ?_
  refine J_ldc2 (v := (-1)) dX2_sendWords_122 kw_4_146 ?_
  refine J_lxor dX2_sendWords_125 ?_
  refine J_land dX2_sendWords_126 ?_
  refine J_LTl (fun w14 => ?_)
  refine J_lstore dX2_sendWords_127 (by decide) (SD.a (lvr := [(8, .int v5), (0, rv (zx x) a0), (2, .int i2), (3, rv (zx x) a3)]) [0, 1, 2, 3] rfl rfl) rfl ?_
  refine J_aload_n 2 dX2_sendWords_129 rv_is rfl ?_
  refine J_aload_n 4 dX2_sendWords_130 rv_is rfl ?_
  refine J_iload_n 3 dX2_sendWords_131 rfl ?_
  refine J_iconst (v := nI 1) dX2_sendWords_132 rfl ?_
  refine J_iadd dX2_sendWords_133 ?_
  refine J_lload 0 dX2_sendWords_134 rfl ?_
  refine J_aload_n 2 dX2_sendWords_136 rv_is rfl ?_
  refine J_getR kc_2 9 (by decide) rfl rfl kw_2_188 dX2_sendWords_137 g10 ?_
  refine J_getR kc_3 1 (by decide) rfl rfl kw_2_118 dX2_sendWords_140 g11 ?_
  refine J_iload 1 dX2_sendWords_143 rfl ?_
  refine J_G (fun g15 => ?_)
  refine J_G (fun g16 => ?_)
  refine J_lald dX2_sendWords_145 g15 g16 ?_
  refine J_ldc2 (v := (-1)) dX2_sendWords_146 kw_4_146 ?_
  refine J_lxor dX2_sendWords_149 ?_
  refine J_land dX2_sendWords_150 ?_
  refine J.callV (n := 3) (As := [rv (zx x) a3, .int (i2 + (nI 1)), .long (w14 &&& ((xL h9 (xR h9 (xR h9 a0 9) 1) v5.toNatClampNeg) ^^^ (-1)))]) kc_2 (ctX2_arrive (lx x) (wx x) a0 a3 (i2 + (nI 1)) (w14 &&& ((xL h9 (xR h9 (xR h9 a0 9) 1) v5.toNatClampNeg) ^^^ (-1))) h9) kw_4_185 kw_4_182 kw_4_183 kw_4_184 kw_1_11 (by decide +kernel) rfl (by decide) (Nat.zero_le _) rfl dX2_sendWords_151 g10 (fun _ h17 => ?_)
  show J x _ _ 154 _ [] h17 _
  refine J_aload_n 2 dX2_sendWords_154 rv_is rfl ?_
  refine J_aload_n 4 dX2_sendWords_155 rv_is rfl ?_
  refine J_iload_n 3 dX2_sendWords_156 rfl ?_
  refine J_iconst (v := nI 1) dX2_sendWords_157 rfl ?_
  refine J_iadd dX2_sendWords_158 ?_
  refine J_iconst (v := nI 2) dX2_sendWords_159 rfl ?_
  refine J_iadd dX2_sendWords_160 ?_
  refine J_lload 0 dX2_sendWords_161 rfl ?_
  refine J_aload_n 2 dX2_sendWords_163 rv_is rfl ?_
  refine J_G (fun g18 => ?_)
  refine J_getR kc_2 9 (by decide) rfl rfl kw_2_188 dX2_sendWords_164 g18 ?_
  refine J_G (fun g19 => ?_)
  refine J_getR kc_3 1 (by decide) rfl rfl kw_2_118 dX2_sendWords_167 g19 ?_
  refine J_iload 1 dX2_sendWords_170 rfl ?_
  refine J_G (fun g20 => ?_)
  refine J_G (fun g21 => ?_)
  refine J_lald dX2_sendWords_172 g20 g21 ?_
  refine J_land dX2_sendWords_173 ?_
  refine J.callV (n := 3) (As := [rv (zx x) a3, .int ((i2 + (nI 1)) + (nI 2)), .long (w14 &&& (xL h17 (xR h17 (xR h17 a0 9) 1) v5.toNatClampNeg))]) kc_2 (ctX2_arrive (lx x) (wx x) a0 a3 ((i2 + (nI 1)) + (nI 2)) (w14 &&& (xL h17 (xR h17 (xR h17 a0 9) 1) v5.toNatClampNeg)) h17) kw_4_185 kw_4_182 kw_4_183 kw_4_184 kw_1_11 (by decide +kernel) rfl (by decide) (Nat.zero_le _) rfl dX2_sendWords_174 g18 (fun _ h22 => ?_)
  show J x _ _ 177 _ [] h22 _
  exact J_vret dX2_sendWords_177
def X2_sendWords_f (a0 : Nat) (i1 : Int32) (i2 : Int32) (h : AH) : Option (Unit × AH) :=
  G (xc h a0 = 2) <|
  G (xc h (xR h a0 8) = 0) <|
  G (xc h (xR h (xR h a0 8) 11) = 20) <|
  G (gx i1 (xz h (xR h (xR h a0 8) 11))) <|
  LT (xR h (xR h (xR h a0 8) 11) i1.toNatClampNeg) fun r5 =>
  G (xc h r5 = 1) <|
  G (xc h (xR h a0 7) = 10) <|
  BN (X10_isBare_f (xR h a0 7) i1 h) fun v9 h8 =>
  G (xc h8 a0 = 2) <|
  BN (X2_held_f a0 r5 (xI h r5 6) i2 v9 h8) fun w12 h11 =>
  G (xc h11 a0 = 2) <|
  G (xc h11 (xR h11 a0 7) = 10) <|
  BN (X10_isAgain_f (xR h11 a0 7) i1 h11) fun v16 h15 =>
  if v16 = 0 then (
    X2_sendWords_B85 a0 i1 i2 r5 w12 w12 h15
  ) else (
    G (xc h15 a0 = 2) <|
    G (xc h15 (xR h15 a0 3) = 17) <|
    G (gx i1 (xz h15 (xR h15 a0 3))) <|
    G (xc h15 (xR h15 a0 9) = 3) <|
    G (xc h15 r5 = 1) <|
    G (xc h15 (xR h15 (xR h15 a0 9) 2) = 17) <|
    G (gx (((xI h15 r5 6) * (nI 7)) + i2) (xz h15 (xR h15 (xR h15 a0 9) 2))) <|
    LT (w12 ||| (((xL h15 (xR h15 a0 3) i1.toNatClampNeg) &&& (w12 ^^^ (-1))) &&& ((xL h15 (xR h15 (xR h15 a0 9) 2) (((xI h15 r5 6) * (nI 7)) + i2).toNatClampNeg) ^^^ (-1)))) fun w24 =>
    X2_sendWords_B85 a0 i1 i2 r5 w12 w24 h15
  )
theorem jX2_sendWords (x : CT) (a0 : Nat) (i1 : Int32) (i2 : Int32) (h : AH) : J x qX2_sendWords ZV 0 [(0, rv (zx x) a0), (1, .int i1), (2, .int i2)] [] h (X2_sendWords_f a0 i1 i2 h) := by
  unfold X2_sendWords_f
  refine J_aload_n 0 dX2_sendWords_0 rv_is rfl ?_
  refine J_G (fun g1 => ?_)
  refine J_getR kc_2 8 (by decide) rfl rfl kw_2_187 dX2_sendWords_1 g1 ?_
  refine J_G (fun g2 => ?_)
  refine J_getR kc_0 11 (by decide) rfl rfl kw_1_148 dX2_sendWords_4 g2 ?_
  refine J_iload_n 1 dX2_sendWords_7 rfl ?_
  refine J_G (fun g3 => ?_)
  refine J_G (fun g4 => ?_)
  refine J_aald (t := 20) (t0 := 4) (Cn := RX1) (by decide) (by decide) (fun _ => rfl) dX2_sendWords_8 g3 g4 ?_
  refine J_LTr (fun r5 => ?_)
  refine J_astore_n rv_is dX2_sendWords_9 (by decide) (SD.a (lvr := [(0, rv (zx x) a0), (1, .int i1), (2, .int i2)]) [0, 1, 2] rfl rfl) ?_
  refine J_aload_n 1 dX2_sendWords_10 rv_is rfl ?_
  refine J_aload_n 0 dX2_sendWords_11 rv_is rfl ?_
  refine J_aload_n 0 dX2_sendWords_12 rv_is rfl ?_
  refine J_G (fun g6 => ?_)
  refine J_getI kc_1 6 (by decide) rfl rfl kw_1_70 dX2_sendWords_13 g6 ?_
  refine J_iload_n 3 dX2_sendWords_16 rfl ?_
  refine J_aload_n 1 dX2_sendWords_17 rv_is rfl ?_
  refine J_getR kc_2 7 (by decide) rfl rfl kw_2_186 dX2_sendWords_18 g1 ?_
  refine J_iload_n 2 dX2_sendWords_21 rfl ?_
  refine J_G (fun g7 => ?_)
  refine J.callV (n := 1) (As := [.int i1]) kc_10 (ctX10_isBare (lx x) (wx x) (xR h a0 7) i1 h) kw_4_177 kw_4_174 kw_4_175 kw_4_176 kw_1_5 (by decide +kernel) rfl (by decide) (by simp [rv_cat, cat_I, cat_L, cat_S]) rfl dX2_sendWords_22 g7 (fun v9 h8 => ?_)
  show J x _ _ 25 _ [.int v9, .int i2, .int (xI h r5 6), rv (zx x) r5, rv (zx x) a0] h8 _
  refine J_G (fun g10 => ?_)
  refine J.callV (n := 4) (As := [rv (zx x) r5, .int (xI h r5 6), .int i2, .int v9]) kc_2 (ctX2_held (lx x) (wx x) a0 r5 (xI h r5 6) i2 v9 h8) kw_4_165 kw_4_162 kw_4_163 kw_4_164 kw_1_11 (by decide +kernel) rfl (by decide) (Nat.zero_le _) rfl dX2_sendWords_25 g10 (fun w12 h11 => ?_)
  show J x _ _ 28 _ [.long w12] h11 _
  refine J_lstore dX2_sendWords_28 (by decide) (SD.c (lvr := [(3, rv (zx x) r5), (0, rv (zx x) a0), (1, .int i1), (2, .int i2)]) [0, 1, 2, 3] rfl rfl 0 rfl rfl rv_cat) rfl ?_
  refine J_lload 0 dX2_sendWords_30 rfl ?_
  refine J_lstore dX2_sendWords_32 (by decide) (SD.a (lvr := [(4, .long w12), (3, rv (zx x) r5), (0, rv (zx x) a0), (1, .int i1), (2, .int i2)]) [0, 1, 2, 3, 4] rfl rfl) rfl ?_
  refine J_aload_n 3 dX2_sendWords_34 rv_is rfl ?_
  refine J_G (fun g13 => ?_)
  refine J_getR kc_2 7 (by decide) rfl rfl kw_2_186 dX2_sendWords_35 g13 ?_
  refine J_iload_n 4 dX2_sendWords_38 rfl ?_
  refine J_G (fun g14 => ?_)
  refine J.callV (n := 1) (As := [.int i1]) kc_10 (ctX10_isAgain (lx x) (wx x) (xR h11 a0 7) i1 h11) kw_4_181 kw_4_178 kw_4_179 kw_4_180 kw_1_5 (by decide +kernel) rfl (by decide) (Nat.zero_le _) rfl dX2_sendWords_39 g14 (fun v16 h15 => ?_)
  show J x _ _ 42 _ [.int v16] h15 _
  refine J_if_eq (tgt := 85) dX2_sendWords_42 rfl ?_ ?_
  · exact J_sub [3, 4, 5, 2, 1, 0] rfl (jX2_sendWords_B85 x a0 i1 i2 r5 w12 w12 h15)
  · refine J_lload 0 dX2_sendWords_45 rfl ?_
    refine J_aload_n 3 dX2_sendWords_47 rv_is rfl ?_
    refine J_G (fun g17 => ?_)
    refine J_getR kc_2 3 (by decide) rfl rfl kw_2_178 dX2_sendWords_48 g17 ?_
    refine J_iload_n 4 dX2_sendWords_51 rfl ?_
    refine J_G (fun g18 => ?_)
    refine J_G (fun g19 => ?_)
    refine J_lald dX2_sendWords_52 g18 g19 ?_
    refine J_lload 1 dX2_sendWords_53 rfl ?_
    refine J_ldc2 (v := (-1)) dX2_sendWords_55 kw_4_146 ?_
    refine J_lxor dX2_sendWords_58 ?_
    refine J_land dX2_sendWords_59 ?_
    refine J_aload_n 3 dX2_sendWords_60 rv_is rfl ?_
    refine J_getR kc_2 9 (by decide) rfl rfl kw_2_188 dX2_sendWords_61 g17 ?_
    refine J_G (fun g20 => ?_)
    refine J_getR kc_3 2 (by decide) rfl rfl kw_2_121 dX2_sendWords_64 g20 ?_
    refine J_aload_n 2 dX2_sendWords_67 rv_is rfl ?_
    refine J_G (fun g21 => ?_)
    refine J_getI kc_1 6 (by decide) rfl rfl kw_1_70 dX2_sendWords_68 g21 ?_
    refine J_bipush (v := nI 7) dX2_sendWords_71 rfl ?_
    refine J_imul dX2_sendWords_73 ?_
    refine J_iload_n 5 dX2_sendWords_74 rfl ?_
    refine J_iadd dX2_sendWords_75 ?_
    refine J_G (fun g22 => ?_)
    refine J_G (fun g23 => ?_)
    refine J_lald dX2_sendWords_76 g22 g23 ?_
    refine J_ldc2 (v := (-1)) dX2_sendWords_77 kw_4_146 ?_
    refine J_lxor dX2_sendWords_80 ?_
    refine J_land dX2_sendWords_81 ?_
    refine J_lor dX2_sendWords_82 ?_
    refine J_LTl (fun w24 => ?_)
    refine J_lstore dX2_sendWords_83 (by decide) (SD.a (lvr := [(4, .long w12), (3, rv (zx x) r5), (0, rv (zx x) a0), (1, .int i1), (2, .int i2)]) [1, 2, 3, 4, 5] rfl rfl) rfl ?_
    exact J_sub [3, 4, 5, 2, 1, 0] rfl (jX2_sendWords_B85 x a0 i1 i2 r5 w12 w24 h15)
theorem ctX2_sendWords (l : Launch) (w : WT) (a0 : Nat) (i1 : Int32) (i2 : Int32) (h : AH) : CM l w yX2_sendWords cX2_sendWords 11 none 2 45 KV [rv (w.1) a0, .int i1, .int i2] h (X2_sendWords_f a0 i1 i2 h) :=
  CM.of (by decide +kernel) (by simp [lg_sl, rv_cat, cat_I, cat_L, cat_S]) (lv := [(0, rv (w.1) a0), (1, .int i1), (2, .int i2)]) (by simp [lv_args, rv_cat, cat_I, cat_L, cat_S]) (fun x hx => by subst hx; exact jX2_sendWords x a0 i1 i2 h)
-- FallTrials$FallLanes.putAll(LFallTrials$Numbers;)V
abbrev qX3_putAll : MT := (cX3_putAll, RX3, "putAll", none, 2, 51, 3)
def X3_putAll_B6 : Nat → Nat → Nat → Int32 → AH → Option (Unit × AH)
  | 0, _, _, _, _ => none
  | n + 1, a0, a1, i2, h =>
    G (xc h a1 = 4) <|
    if (xI h a1 1) ≤ i2 then (
      some ((), h)
    ) else (
      G (xc h a1 = 4) <|
      G (xc h (xR h a1 0) = 16) <|
      G (gx i2 (xz h (xR h a1 0))) <|
      G (xc h a0 = 3) <|
      BN (X3_put_f a0 (xI h (xR h a1 0) i2.toNatClampNeg) (-1) h) fun _ h6 =>
      LT (i2 + nI 1) fun v7 =>
      X3_putAll_B6 n a0 a1 v7 h6
    )
theorem jX3_putAll_B6 (x : CT) : ∀ (n : Nat) (a0 : Nat) (a1 : Nat) (i2 : Int32) (h : AH), J x qX3_putAll ZV 6 [(0, rv (zx x) a0), (1, rv (zx x) a1), (2, .int i2)] [] h (X3_putAll_B6 n a0 a1 i2 h) := by
  intro n
  induction n with
  | zero => intro a0 a1 i2 h; exact J_none
  | succ n ih =>
    intro a0 a1 i2 h
    unfold X3_putAll_B6
    refine J_iload_n 2 dX3_putAll_6 rfl ?_
    refine J_aload_n 1 dX3_putAll_7 rv_is rfl ?_
    refine J_G (fun g1 => ?_)
    refine J_getI kc_4 1 (by decide) rfl rfl kw_2_57 dX3_putAll_8 g1 ?_
    refine J_icmp_ge (tgt := 33) dX3_putAll_11 rfl ?_ ?_
    · exact J_vret dX3_putAll_33
    · refine J_aload_n 0 dX3_putAll_14 rv_is rfl ?_
      refine J_aload_n 1 dX3_putAll_15 rv_is rfl ?_
      refine J_G (fun g2 => ?_)
      refine J_getR kc_4 0 (by decide) rfl rfl kw_2_55 dX3_putAll_16 g2 ?_
      refine J_iload_n 2 dX3_putAll_19 rfl ?_
      refine J_G (fun g3 => ?_)
      refine J_G (fun g4 => ?_)
      refine J_iald dX3_putAll_20 g3 g4 ?_
      refine J_ldc2 (v := (-1)) dX3_putAll_21 kw_4_128 ?_
      refine J_G (fun g5 => ?_)
      refine J.callV (n := 2) (As := [.int (xI h (xR h a1 0) i2.toNatClampNeg), .long ((-1))]) kc_3 (ctX3_put (lx x) (wx x) a0 (xI h (xR h a1 0) i2.toNatClampNeg) (-1) h) kw_4_132 kw_4_129 kw_4_130 kw_4_131 kw_1_9 (by decide +kernel) rfl (by decide) (Nat.zero_le _) rfl dX3_putAll_24 g5 (fun _ h6 => ?_)
      show J x _ _ 27 _ [] h6 _
      refine J_iincL (u := i2 + nI 1) 2 dX3_putAll_27 rfl rfl (by decide) (SD.c (lvr := [(0, rv (zx x) a0), (1, rv (zx x) a1)]) [0, 1] rfl rfl 1 rfl rfl rv_cat) (fun v7 => ?_)
      refine J_goto (tgt := 6) dX3_putAll_30 rfl ?_
      exact J_sub [1, 2, 0] rfl (ih a0 a1 v7 h6)
def X3_putAll_f (a0 : Nat) (a1 : Nat) (h : AH) : Option (Unit × AH) :=
  G (xc h a0 = 3) <|
  BN (X3_wipe_f a0 h) fun _ h2 =>
  X3_putAll_B6 FU a0 a1 (nI 0) h2
theorem jX3_putAll (x : CT) (a0 : Nat) (a1 : Nat) (h : AH) : J x qX3_putAll ZV 0 [(0, rv (zx x) a0), (1, rv (zx x) a1)] [] h (X3_putAll_f a0 a1 h) := by
  unfold X3_putAll_f
  refine J_aload_n 0 dX3_putAll_0 rv_is rfl ?_
  refine J_G (fun g1 => ?_)
  refine J.callV (n := 0) (As := []) kc_3 (ctX3_wipe (lx x) (wx x) a0 h) kw_4_124 kw_4_121 kw_4_122 kw_4_123 kw_1_9 (by decide +kernel) rfl (by decide) (Nat.zero_le _) rfl dX3_putAll_1 g1 (fun _ h2 => ?_)
  show J x _ _ 4 _ [] h2 _
  refine J_iconst (v := nI 0) dX3_putAll_4 rfl ?_
  refine J_istore_n dX3_putAll_5 (by decide) (SD.c (lvr := [(0, rv (zx x) a0), (1, rv (zx x) a1)]) [0, 1] rfl rfl 1 rfl rfl rv_cat) ?_
  exact J_sub [1, 2, 0] rfl (jX3_putAll_B6 x FU a0 a1 (nI 0) h2)
theorem ctX3_putAll (l : Launch) (w : WT) (a0 : Nat) (a1 : Nat) (h : AH) : CM l w yX3_putAll cX3_putAll 3 none 2 51 KV [rv (w.1) a0, rv (w.1) a1] h (X3_putAll_f a0 a1 h) :=
  CM.of (by decide +kernel) (by simp [lg_sl, rv_cat, cat_I, cat_L, cat_S]) (lv := [(0, rv (w.1) a0), (1, rv (w.1) a1)]) (by simp [lv_args, rv_cat, cat_I, cat_L, cat_S]) (fun x hx => by subst hx; exact jX3_putAll x a0 a1 h)
-- FallTrials$Purse.isTooMuch(LFallTrials$Works;)Z
abbrev qX5_isTooMuch : MT := (cX5_isTooMuch, RX5, "isTooMuch", (some .boolean), 3, 66, 2)
def X5_isTooMuch_f (a0 : Nat) (a1 : Nat) (h : AH) : Option (Int32 × AH) :=
  G (xc h a0 = 5) <|
  BN (X5_total_f a0 h) fun v3 h2 =>
  if v3 = (nI 3) then (
    G (xc h2 a0 = 5) <|
    BN (X5_fallCount_f a0 a1 h2) fun v6 h5 =>
    if v6 ≤ (nI 60) then (
      some (nI 0, h5)
    ) else (
      some (nI 1, h5)
    )
  ) else (
    some (nI 0, h2)
  )
theorem jX5_isTooMuch (x : CT) (a0 : Nat) (a1 : Nat) (h : AH) : J x qX5_isTooMuch ZI 0 [(0, rv (zx x) a0), (1, rv (zx x) a1)] [] h (X5_isTooMuch_f a0 a1 h) := by
  unfold X5_isTooMuch_f
  refine J_aload_n 0 dX5_isTooMuch_0 rv_is rfl ?_
  refine J_G (fun g1 => ?_)
  refine J.callV (n := 0) (As := []) kc_5 (ctX5_total (lx x) (wx x) a0 h) kw_4_85 kw_5_102 kw_4_83 kw_4_84 kw_1_8 (by decide +kernel) rfl (by decide) (Nat.zero_le _) rfl dX5_isTooMuch_1 g1 (fun v3 h2 => ?_)
  show J x _ _ 4 _ [.int v3] h2 _
  refine J_iconst (v := nI 3) dX5_isTooMuch_4 rfl ?_
  refine J_icmp_ne (tgt := 22) dX5_isTooMuch_5 rfl ?_ ?_
  · refine J_iconst (v := nI 0) dX5_isTooMuch_22 rfl ?_
    exact J_zret dX5_isTooMuch_23 (by decide)
  · refine J_aload_n 0 dX5_isTooMuch_8 rv_is rfl ?_
    refine J_aload_n 1 dX5_isTooMuch_9 rv_is rfl ?_
    refine J_G (fun g4 => ?_)
    refine J.callV (n := 1) (As := [rv (zx x) a1]) kc_5 (ctX5_fallCount (lx x) (wx x) a0 a1 h2) kw_5_106 kw_5_103 kw_5_104 kw_5_105 kw_1_8 (by decide +kernel) rfl (by decide) (Nat.zero_le _) rfl dX5_isTooMuch_10 g4 (fun v6 h5 => ?_)
    show J x _ _ 13 _ [.int v6] h5 _
    refine J_bipush (v := nI 60) dX5_isTooMuch_13 rfl ?_
    refine J_icmp_le (tgt := 22) dX5_isTooMuch_15 rfl ?_ ?_
    · refine J_iconst (v := nI 0) dX5_isTooMuch_22 rfl ?_
      exact J_zret dX5_isTooMuch_23 (by decide)
    · refine J_iconst (v := nI 1) dX5_isTooMuch_18 rfl ?_
      refine J_goto (tgt := 23) dX5_isTooMuch_19 rfl ?_
      exact J_zret dX5_isTooMuch_23 (by decide)
theorem ctX5_isTooMuch (l : Launch) (w : WT) (a0 : Nat) (a1 : Nat) (h : AH) : CM l w yX5_isTooMuch cX5_isTooMuch 2 (some .boolean) 3 66 KI [rv (w.1) a0, rv (w.1) a1] h (X5_isTooMuch_f a0 a1 h) :=
  CM.of (by decide +kernel) (by simp [lg_sl, rv_cat, cat_I, cat_L, cat_S]) (lv := [(0, rv (w.1) a0), (1, rv (w.1) a1)]) (by simp [lv_args, rv_cat, cat_I, cat_L, cat_S]) (fun x hx => by subst hx; exact jX5_isTooMuch x a0 a1 h)
-- FallTrials$Reader.rowHere()I
abbrev qX6_rowHere : MT := (cX6_rowHere, RX6, "rowHere", (some .int), 6, 127, 2)
def X6_rowHere_f (a0 : Nat) (h : AH) : Option (Int32 × AH) :=
  G (xc h a0 = 6) <|
  BN (X6_isName_f a0 h) fun v3 h2 =>
  if v3 = 0 then (
    G (xc h2 a0 = 6) <|
    BN (X6_flawed_f a0 (nI 1) h2) fun v12 h11 =>
    some ((-1), h11)
  ) else (
    G (xc h2 a0 = 6) <|
    BN (X6_meaning_f a0 h2) fun v6 h5 =>
    if (nI 4) ≤ v6 then (
      some (v6 - (nI 4), h5)
    ) else (
      G (xc h5 a0 = 6) <|
      BN (X6_flawed_f a0 (nI 2) h5) fun v9 h8 =>
      some ((-1), h8)
    )
  )
theorem jX6_rowHere (x : CT) (a0 : Nat) (h : AH) : J x qX6_rowHere ZI 0 [(0, rv (zx x) a0)] [] h (X6_rowHere_f a0 h) := by
  unfold X6_rowHere_f
  refine J_aload_n 0 dX6_rowHere_0 rv_is rfl ?_
  refine J_G (fun g1 => ?_)
  refine J.callV (n := 0) (As := []) kc_6 (ctX6_isName (lx x) (wx x) a0 h) kw_3_200 kw_3_197 kw_3_198 kw_3_199 kw_1_4 (by decide +kernel) rfl (by decide) (Nat.zero_le _) rfl dX6_rowHere_1 g1 (fun v3 h2 => ?_)
  show J x _ _ 4 _ [.int v3] h2 _
  refine J_if_ne (tgt := 15) dX6_rowHere_4 rfl ?_ ?_
  · refine J_aload_n 0 dX6_rowHere_15 rv_is rfl ?_
    refine J_G (fun g4 => ?_)
    refine J.callV (n := 0) (As := []) kc_6 (ctX6_meaning (lx x) (wx x) a0 h2) kw_3_217 kw_3_214 kw_3_215 kw_3_216 kw_1_4 (by decide +kernel) rfl (by decide) (Nat.zero_le _) rfl dX6_rowHere_16 g4 (fun v6 h5 => ?_)
    show J x _ _ 19 _ [.int v6] h5 _
    refine J_istore_n dX6_rowHere_19 (by decide) (SD.c (lvr := [(0, rv (zx x) a0)]) [0] rfl rfl 0 rfl rfl rv_cat) ?_
    refine J_iload_n 0 dX6_rowHere_20 rfl ?_
    refine J_iconst (v := nI 4) dX6_rowHere_21 rfl ?_
    refine J_icmp_ge (tgt := 33) dX6_rowHere_22 rfl ?_ ?_
    · refine J_iload_n 0 dX6_rowHere_33 rfl ?_
      refine J_iconst (v := nI 4) dX6_rowHere_34 rfl ?_
      refine J_isub dX6_rowHere_35 ?_
      exact J_iret dX6_rowHere_36
    · refine J_aload_n 1 dX6_rowHere_25 rv_is rfl ?_
      refine J_iconst (v := nI 2) dX6_rowHere_26 rfl ?_
      refine J_G (fun g7 => ?_)
      refine J.callV (n := 1) (As := [.int (nI 2)]) kc_6 (ctX6_flawed (lx x) (wx x) a0 (nI 2) h5) kw_3_213 kw_3_210 kw_3_211 kw_3_212 kw_1_4 (by decide +kernel) rfl (by decide) (Nat.zero_le _) rfl dX6_rowHere_27 g7 (fun v9 h8 => ?_)
      show J x _ _ 30 _ [.int v9] h8 _
      refine J_pop dX6_rowHere_30 rfl ?_
      refine J_iconst (v := (-1)) dX6_rowHere_31 rfl ?_
      exact J_iret dX6_rowHere_32
  · refine J_aload_n 0 dX6_rowHere_7 rv_is rfl ?_
    refine J_iconst (v := nI 1) dX6_rowHere_8 rfl ?_
    refine J_G (fun g10 => ?_)
    refine J.callV (n := 1) (As := [.int (nI 1)]) kc_6 (ctX6_flawed (lx x) (wx x) a0 (nI 1) h2) kw_3_213 kw_3_210 kw_3_211 kw_3_212 kw_1_4 (by decide +kernel) rfl (by decide) (Nat.zero_le _) rfl dX6_rowHere_9 g10 (fun v12 h11 => ?_)
    show J x _ _ 12 _ [.int v12] h11 _
    refine J_pop dX6_rowHere_12 rfl ?_
    refine J_iconst (v := (-1)) dX6_rowHere_13 rfl ?_
    exact J_iret dX6_rowHere_14
theorem ctX6_rowHere (l : Launch) (w : WT) (a0 : Nat) (h : AH) : CM l w yX6_rowHere cX6_rowHere 2 (some .int) 6 127 KI [rv (w.1) a0] h (X6_rowHere_f a0 h) :=
  CM.of (by decide +kernel) (by simp [lg_sl, rv_cat, cat_I, cat_L, cat_S]) (lv := [(0, rv (w.1) a0)]) (by simp [lv_args, rv_cat, cat_I, cat_L, cat_S]) (fun x hx => by subst hx; exact jX6_rowHere x a0 h)
-- FallTrials$Reader.readMachine()Z
abbrev qX6_readMachine : MT := (cX6_readMachine, RX6, "readMachine", (some .boolean), 7, 148, 1)
def X6_readMachine_f (a0 : Nat) (h : AH) : Option (Int32 × AH) :=
  G (xc h a0 = 6) <|
  G (xc h (xR h a0 10) = 0) <|
  if (xI h (xR h a0 10) 0) = (nI 4) then (
    G (xc h a0 = 6) <|
    BN (X6_flawed_f a0 (nI 5) h) fun v18 h17 =>
    G (bz v18) <|
    some (v18, h17)
  ) else (
    G (xc h a0 = 6) <|
    G (xc h (xR h a0 10) = 0) <|
    BN (X6_stepToNewName_f a0 (xI h (xR h a0 10) 0) h) fun v6 h5 =>
    if v6 = 0 then (
      some (nI 0, h5)
    ) else (
      G (xc h5 a0 = 6) <|
      G (xc h5 (xR h5 a0 10) = 0) <|
      LT (pI h5 (xR h5 a0 10) 0 ((xI h5 (xR h5 a0 10) 0) + (nI 1))) fun h9 =>
      G (xc h9 a0 = 6) <|
      BN (X6_step_f a0 h9) fun _ h11 =>
      G (xc h11 a0 = 6) <|
      BN (X6_endsLine_f a0 h11) fun v14 h13 =>
      G (bz v14) <|
      some (v14, h13)
    )
  )
theorem jX6_readMachine (x : CT) (a0 : Nat) (h : AH) : J x qX6_readMachine ZI 0 [(0, rv (zx x) a0)] [] h (X6_readMachine_f a0 h) := by
  unfold X6_readMachine_f
  refine J_aload_n 0 dX6_readMachine_0 rv_is rfl ?_
  refine J_G (fun g1 => ?_)
  refine J_getR kc_6 10 (by decide) rfl rfl kw_1_218 dX6_readMachine_1 g1 ?_
  refine J_G (fun g2 => ?_)
  refine J_getI kc_0 0 (by decide) rfl rfl kw_1_108 dX6_readMachine_4 g2 ?_
  refine J_iconst (v := nI 4) dX6_readMachine_7 rfl ?_
  refine J_icmp_ne (tgt := 17) dX6_readMachine_8 rfl ?_ ?_
  · refine J_aload_n 0 dX6_readMachine_17 rv_is rfl ?_
    refine J_aload_n 0 dX6_readMachine_18 rv_is rfl ?_
    refine J_G (fun g3 => ?_)
    refine J_getR kc_6 10 (by decide) rfl rfl kw_1_218 dX6_readMachine_19 g3 ?_
    refine J_G (fun g4 => ?_)
    refine J_getI kc_0 0 (by decide) rfl rfl kw_1_108 dX6_readMachine_22 g4 ?_
    refine J.callV (n := 1) (As := [.int (xI h (xR h a0 10) 0)]) kc_6 (ctX6_stepToNewName (lx x) (wx x) a0 (xI h (xR h a0 10) 0) h) kw_3_239 kw_3_236 kw_3_237 kw_3_238 kw_1_4 (by decide +kernel) rfl (by decide) (Nat.zero_le _) rfl dX6_readMachine_25 g3 (fun v6 h5 => ?_)
    show J x _ _ 28 _ [.int v6] h5 _
    refine J_if_ne (tgt := 33) dX6_readMachine_28 rfl ?_ ?_
    · refine J_aload_n 0 dX6_readMachine_33 rv_is rfl ?_
      refine J_G (fun g7 => ?_)
      refine J_getR kc_6 10 (by decide) rfl rfl kw_1_218 dX6_readMachine_34 g7 ?_
      refine J_dup dX6_readMachine_37 rv_cat ?_
      refine J_G (fun g8 => ?_)
      refine J_getI kc_0 0 (by decide) rfl rfl kw_1_108 dX6_readMachine_38 g8 ?_
      refine J_iconst (v := nI 1) dX6_readMachine_41 rfl ?_
      refine J_iadd dX6_readMachine_42 ?_
      refine J_putI kc_0 0 (by decide) rfl rfl rfl rfl (Or.inl rfl) kw_1_108 dX6_readMachine_43 g8 ?_
      refine J_LTh (fun h9 => ?_)
      refine J_aload_n 0 dX6_readMachine_46 rv_is rfl ?_
      refine J_G (fun g10 => ?_)
      refine J.callV (n := 0) (As := []) kc_6 (ctX6_step (lx x) (wx x) a0 h9) kw_3_130 kw_3_127 kw_3_128 kw_3_129 kw_1_4 (by decide +kernel) rfl (by decide) (Nat.zero_le _) rfl dX6_readMachine_47 g10 (fun _ h11 => ?_)
      show J x _ _ 50 _ [] h11 _
      refine J_aload_n 0 dX6_readMachine_50 rv_is rfl ?_
      refine J_G (fun g12 => ?_)
      refine J.callV (n := 0) (As := []) kc_6 (ctX6_endsLine (lx x) (wx x) a0 h11) kw_4_3 kw_4_0 kw_4_1 kw_4_2 kw_1_4 (by decide +kernel) rfl (by decide) (Nat.zero_le _) rfl dX6_readMachine_51 g12 (fun v14 h13 => ?_)
      show J x _ _ 54 _ [.int v14] h13 _
      refine J_G (fun g15 => ?_)
      exact J_zret dX6_readMachine_54 g15
    · refine J_iconst (v := nI 0) dX6_readMachine_31 rfl ?_
      exact J_zret dX6_readMachine_32 (by decide)
  · refine J_aload_n 0 dX6_readMachine_11 rv_is rfl ?_
    refine J_iconst (v := nI 5) dX6_readMachine_12 rfl ?_
    refine J_G (fun g16 => ?_)
    refine J.callV (n := 1) (As := [.int (nI 5)]) kc_6 (ctX6_flawed (lx x) (wx x) a0 (nI 5) h) kw_3_213 kw_3_210 kw_3_211 kw_3_212 kw_1_4 (by decide +kernel) rfl (by decide) (Nat.zero_le _) rfl dX6_readMachine_13 g16 (fun v18 h17 => ?_)
    show J x _ _ 16 _ [.int v18] h17 _
    refine J_G (fun g19 => ?_)
    exact J_zret dX6_readMachine_16 g19
theorem ctX6_readMachine (l : Launch) (w : WT) (a0 : Nat) (h : AH) : CM l w yX6_readMachine cX6_readMachine 1 (some .boolean) 7 148 KI [rv (w.1) a0] h (X6_readMachine_f a0 h) :=
  CM.of (by decide +kernel) (by simp [lg_sl, rv_cat, cat_I, cat_L, cat_S]) (lv := [(0, rv (w.1) a0)]) (by simp [lv_args, rv_cat, cat_I, cat_L, cat_S]) (fun x hx => by subst hx; exact jX6_readMachine x a0 h)
-- FallTrials$Reader.stepToRow()I
abbrev qX6_stepToRow : MT := (cX6_stepToRow, RX6, "stepToRow", (some .int), 7, 148, 1)
def X6_stepToRow_f (a0 : Nat) (h : AH) : Option (Int32 × AH) :=
  G (xc h a0 = 6) <|
  BN (X6_step_f a0 h) fun _ h2 =>
  G (xc h2 a0 = 6) <|
  BN (X6_rowHere_f a0 h2) fun v5 h4 =>
  some (v5, h4)
theorem jX6_stepToRow (x : CT) (a0 : Nat) (h : AH) : J x qX6_stepToRow ZI 0 [(0, rv (zx x) a0)] [] h (X6_stepToRow_f a0 h) := by
  unfold X6_stepToRow_f
  refine J_aload_n 0 dX6_stepToRow_0 rv_is rfl ?_
  refine J_G (fun g1 => ?_)
  refine J.callV (n := 0) (As := []) kc_6 (ctX6_step (lx x) (wx x) a0 h) kw_3_130 kw_3_127 kw_3_128 kw_3_129 kw_1_4 (by decide +kernel) rfl (by decide) (Nat.zero_le _) rfl dX6_stepToRow_1 g1 (fun _ h2 => ?_)
  show J x _ _ 4 _ [] h2 _
  refine J_aload_n 0 dX6_stepToRow_4 rv_is rfl ?_
  refine J_G (fun g3 => ?_)
  refine J.callV (n := 0) (As := []) kc_6 (ctX6_rowHere (lx x) (wx x) a0 h2) kw_3_196 kw_3_193 kw_3_194 kw_3_195 kw_1_4 (by decide +kernel) rfl (by decide) (Nat.zero_le _) rfl dX6_stepToRow_5 g3 (fun v5 h4 => ?_)
  show J x _ _ 8 _ [.int v5] h4 _
  exact J_iret dX6_stepToRow_8
theorem ctX6_stepToRow (l : Launch) (w : WT) (a0 : Nat) (h : AH) : CM l w yX6_stepToRow cX6_stepToRow 1 (some .int) 7 148 KI [rv (w.1) a0] h (X6_stepToRow_f a0 h) :=
  CM.of (by decide +kernel) (by simp [lg_sl, rv_cat, cat_I, cat_L, cat_S]) (lv := [(0, rv (w.1) a0)]) (by simp [lv_args, rv_cat, cat_I, cat_L, cat_S]) (fun x hx => by subst hx; exact jX6_stepToRow x a0 h)
