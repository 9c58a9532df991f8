-- FallTrialsModel.comesAt(III)I
abbrev qX15_comesAt : MT := (cX15_comesAt, RX15, "comesAt", (some .int), 3, 67, 7)
def X15_comesAt_B251 (k180 : (Nat → Int32 → Int32 → Int32 → Int32 → Int32 → AH → Option (Int32 × AH))) (a0 : Nat) (i1 : Int32) (i2 : Int32) (i3 : Int32) (i6 : Int32) (is0 : Int32) (is1 : Int32) (h : AH) : Option (Int32 × AH) :=
  LT (is1 ||| is0) fun v1 =>
  LT (i6 + nI 1) fun v2 =>
  k180 a0 i1 i2 i3 v1 v2 h
theorem jX15_comesAt_B251 (x : CT) (k180 : (Nat → Int32 → Int32 → Int32 → Int32 → Int32 → AH → Option (Int32 × AH))) (hk180 : ∀ (a0 : Nat) (i1 : Int32) (i2 : Int32) (i3 : Int32) (i4 : Int32) (i6 : Int32) (h : AH), J x qX15_comesAt ZI 180 [(0, rv (zx x) a0), (1, .int i1), (2, .int i2), (3, .int i3), (4, .int i4), (6, .int i6)] [] h (k180 a0 i1 i2 i3 i4 i6 h)) (a0 : Nat) (i1 : Int32) (i2 : Int32) (i3 : Int32) (i6 : Int32) (is0 : Int32) (is1 : Int32) (h : AH) : J x qX15_comesAt ZI 251 [(0, rv (zx x) a0), (1, .int i1), (2, .int i2), (3, .int i3), (6, .int i6)] [.int is0, .int is1] h (X15_comesAt_B251 k180 a0 i1 i2 i3 i6 is0 is1 h) := by
  unfold X15_comesAt_B251
  refine J_ior dX15_comesAt_251 ?_
  refine J_LTi (fun v1 => ?_)
  refine J_istore dX15_comesAt_252 (by decide) (SD.a (lvr := [(0, rv (zx x) a0), (1, .int i1), (2, .int i2), (3, .int i3), (6, .int i6)]) [0, 1, 2, 3, 4] rfl rfl) ?_
  refine J_iincL (u := i6 + nI 1) 5 dX15_comesAt_254 rfl rfl (by decide) (SD.a (lvr := [(4, .int v1), (0, rv (zx x) a0), (1, .int i1), (2, .int i2), (3, .int i3)]) [0, 1, 2, 3, 4] rfl rfl) (fun v2 => ?_)
  refine J_goto (tgt := 180) dX15_comesAt_257 rfl ?_
  exact J_sub [2, 3, 4, 5, 1, 0] rfl (hk180 a0 i1 i2 i3 v1 v2 h)
def X15_comesAt_B250 (k180 : (Nat → Int32 → Int32 → Int32 → Int32 → Int32 → AH → Option (Int32 × AH))) (a0 : Nat) (i1 : Int32) (i2 : Int32) (i3 : Int32) (i6 : Int32) (is0 : Int32) (h : AH) : Option (Int32 × AH) :=
  X15_comesAt_B251 k180 a0 i1 i2 i3 i6 (nI 0) is0 h
theorem jX15_comesAt_B250 (x : CT) (k180 : (Nat → Int32 → Int32 → Int32 → Int32 → Int32 → AH → Option (Int32 × AH))) (hk180 : ∀ (a0 : Nat) (i1 : Int32) (i2 : Int32) (i3 : Int32) (i4 : Int32) (i6 : Int32) (h : AH), J x qX15_comesAt ZI 180 [(0, rv (zx x) a0), (1, .int i1), (2, .int i2), (3, .int i3), (4, .int i4), (6, .int i6)] [] h (k180 a0 i1 i2 i3 i4 i6 h)) (a0 : Nat) (i1 : Int32) (i2 : Int32) (i3 : Int32) (i6 : Int32) (is0 : Int32) (h : AH) : J x qX15_comesAt ZI 250 [(0, rv (zx x) a0), (1, .int i1), (2, .int i2), (3, .int i3), (6, .int i6)] [.int is0] h (X15_comesAt_B250 k180 a0 i1 i2 i3 i6 is0 h) := by
  unfold X15_comesAt_B250
  refine J_iconst (v := nI 0) dX15_comesAt_250 rfl ?_
  exact (jX15_comesAt_B251 x k180 hk180 a0 i1 i2 i3 i6 (nI 0) is0 h)
def X15_comesAt_B180 : Nat → Nat → Int32 → Int32 → Int32 → Int32 → Int32 → AH → Option (Int32 × AH)
  | 0, _, _, _, _, _, _, _ => none
  | n + 1, a0, i1, i2, i3, i4, i6, h =>
    G (xc h a0 = 15) <|
    G (xc h (xR h a0 4) = 12) <|
    if (xI h (xR h a0 4) 5) ≤ i6 then (
      some (i4, h)
    ) else (
      if i2 ≤ 0 then (
        some (i4, h)
      ) else (
        G (xc h a0 = 15) <|
        G (xc h (xR h a0 4) = 12) <|
        G (xc h (xR h (xR h a0 4) 16) = 19) <|
        G (gx i6 (xz h (xR h (xR h a0 4) 16))) <|
        if (xI h (xR h (xR h a0 4) 16) i6.toNatClampNeg) = 0 then (
          G (xc h a0 = 15) <|
          BN (X15_isOf_f a0 i6 i3 h) fun v9 h8 =>
          if v9 = 0 then (
            X15_comesAt_B250 (X15_comesAt_B180 n) a0 i1 i2 i3 i6 i4 h8
          ) else (
            G (xc h8 a0 = 15) <|
            BN (X15_holds_f a0 i1 i6 (i2 - (nI 1)) i3 h8) fun v12 h11 =>
            if v12 = 0 then (
              X15_comesAt_B250 (X15_comesAt_B180 n) a0 i1 i2 i3 i6 i4 h11
            ) else (
              G (xc h11 a0 = 15) <|
              G (xc h11 (xR h11 a0 4) = 12) <|
              G (xc h11 (xR h11 (xR h11 a0 4) 14) = 16) <|
              G (gx i6 (xz h11 (xR h11 (xR h11 a0 4) 14))) <|
              X15_comesAt_B251 (X15_comesAt_B180 n) a0 i1 i2 i3 i6 ((nI 1) <<< ((xI h11 (xR h11 (xR h11 a0 4) 14) i6.toNatClampNeg) &&& 31)) i4 h11
            )
          )
        ) else (
          X15_comesAt_B250 (X15_comesAt_B180 n) a0 i1 i2 i3 i6 i4 h
        )
      )
    )
theorem jX15_comesAt_B180 (x : CT) : ∀ (n : Nat) (a0 : Nat) (i1 : Int32) (i2 : Int32) (i3 : Int32) (i4 : Int32) (i6 : Int32) (h : AH), J x qX15_comesAt ZI 180 [(0, rv (zx x) a0), (1, .int i1), (2, .int i2), (3, .int i3), (4, .int i4), (6, .int i6)] [] h (X15_comesAt_B180 n a0 i1 i2 i3 i4 i6 h) := by
  intro n
  induction n with
  | zero => intro a0 i1 i2 i3 i4 i6 h; exact J_none
  | succ n ih =>
    intro a0 i1 i2 i3 i4 i6 h
    unfold X15_comesAt_B180
    refine J_iload 5 dX15_comesAt_180 rfl ?_
    refine J_aload_n 0 dX15_comesAt_182 rv_is rfl ?_
    refine J_G (fun g1 => ?_)
    refine J_getR kc_15 4 (by decide) rfl rfl kw_6_214 dX15_comesAt_183 g1 ?_
    refine J_G (fun g2 => ?_)
    refine J_getIN kc_12 5 (by decide) rfl rfl kn_29 dX15_comesAt_186 g2 ?_
    refine J_icmp_ge (tgt := 260) dX15_comesAt_189 rfl ?_ ?_
    · refine J_iload 4 dX15_comesAt_260 rfl ?_
      exact J_iret dX15_comesAt_262
    · refine J_iload_n 2 dX15_comesAt_192 rfl ?_
      refine J_if_le (tgt := 260) dX15_comesAt_193 rfl ?_ ?_
      · refine J_iload 4 dX15_comesAt_260 rfl ?_
        exact J_iret dX15_comesAt_262
      · refine J_iload 4 dX15_comesAt_196 rfl ?_
        refine J_aload_n 0 dX15_comesAt_198 rv_is rfl ?_
        refine J_G (fun g3 => ?_)
        refine J_getR kc_15 4 (by decide) rfl rfl kw_6_214 dX15_comesAt_199 g3 ?_
        refine J_G (fun g4 => ?_)
        refine J_getRN kc_12 16 (by decide) rfl rfl kn_40 dX15_comesAt_202 g4 ?_
        refine J_iload 5 dX15_comesAt_205 rfl ?_
        refine J_G (fun g5 => ?_)
        refine J_G (fun g6 => ?_)
        refine J_zald dX15_comesAt_207 g5 g6 ?_
        refine J_if_ne (tgt := 250) dX15_comesAt_208 rfl ?_ ?_
        · exact J_sub [0, 1, 2, 3, 5] rfl (jX15_comesAt_B250 x (X15_comesAt_B180 n) ih a0 i1 i2 i3 i6 i4 h)
        · refine J_aload_n 0 dX15_comesAt_211 rv_is rfl ?_
          refine J_iload 5 dX15_comesAt_212 rfl ?_
          refine J_iload_n 3 dX15_comesAt_214 rfl ?_
          refine J_G (fun g7 => ?_)
          refine J.callV (n := 2) (As := [.int i6, .int i3]) kc_15 (ctX15_isOf (lx x) (wx x) a0 i6 i3 h) kw_8_189 kw_8_186 kw_8_188 kp_36 kw_1_13 (by decide +kernel) rfl (by decide) (by simp [rv_cat, cat_I, cat_L, cat_S]) rfl dX15_comesAt_215 g7 (fun v9 h8 => ?_)
          show J x _ _ 218 _ [.int v9, .int i4] h8 _
          refine J_if_eq (tgt := 250) dX15_comesAt_218 rfl ?_ ?_
          · exact J_sub [0, 1, 2, 3, 5] rfl (jX15_comesAt_B250 x (X15_comesAt_B180 n) ih a0 i1 i2 i3 i6 i4 h8)
          · refine J_aload_n 0 dX15_comesAt_221 rv_is rfl ?_
            refine J_iload_n 1 dX15_comesAt_222 rfl ?_
            refine J_iload 5 dX15_comesAt_223 rfl ?_
            refine J_iload_n 2 dX15_comesAt_225 rfl ?_
            refine J_iconst (v := nI 1) dX15_comesAt_226 rfl ?_
            refine J_isub dX15_comesAt_227 ?_
            refine J_iload_n 3 dX15_comesAt_228 rfl ?_
            refine J_G (fun g10 => ?_)
            refine J.callV (n := 4) (As := [.int i1, .int i6, .int (i2 - (nI 1)), .int i3]) kc_15 (ctX15_holds (lx x) (wx x) a0 i1 i6 (i2 - (nI 1)) i3 h8) kw_8_193 kw_8_190 kw_8_192 kp_37 kw_1_13 (by decide +kernel) rfl (by decide) (by simp [rv_cat, cat_I, cat_L, cat_S]) rfl dX15_comesAt_229 g10 (fun v12 h11 => ?_)
            show J x _ _ 232 _ [.int v12, .int i4] h11 _
            refine J_if_eq (tgt := 250) dX15_comesAt_232 rfl ?_ ?_
            · exact J_sub [0, 1, 2, 3, 5] rfl (jX15_comesAt_B250 x (X15_comesAt_B180 n) ih a0 i1 i2 i3 i6 i4 h11)
            · refine J_iconst (v := nI 1) dX15_comesAt_235 rfl ?_
              refine J_aload_n 0 dX15_comesAt_236 rv_is rfl ?_
              refine J_G (fun g13 => ?_)
              refine J_getR kc_15 4 (by decide) rfl rfl kw_6_214 dX15_comesAt_237 g13 ?_
              refine J_G (fun g14 => ?_)
              refine J_getRN kc_12 14 (by decide) rfl rfl kn_38 dX15_comesAt_240 g14 ?_
              refine J_iload 5 dX15_comesAt_243 rfl ?_
              refine J_G (fun g15 => ?_)
              refine J_G (fun g16 => ?_)
              refine J_iald dX15_comesAt_245 g15 g16 ?_
              refine J_ishl dX15_comesAt_246 ?_
              refine J_goto (tgt := 251) dX15_comesAt_247 rfl ?_
              exact J_sub [0, 1, 2, 3, 5] rfl (jX15_comesAt_B251 x (X15_comesAt_B180 n) ih a0 i1 i2 i3 i6 ((nI 1) <<< ((xI h11 (xR h11 (xR h11 a0 4) 14) i6.toNatClampNeg) &&& 31)) i4 h11)
def X15_comesAt_B177 (a0 : Nat) (i1 : Int32) (i2 : Int32) (i3 : Int32) (i4 : Int32) (h : AH) : Option (Int32 × AH) :=
  X15_comesAt_B180 FU a0 i1 i2 i3 i4 (nI 0) h
theorem jX15_comesAt_B177 (x : CT) (a0 : Nat) (i1 : Int32) (i2 : Int32) (i3 : Int32) (i4 : Int32) (h : AH) : J x qX15_comesAt ZI 177 [(0, rv (zx x) a0), (1, .int i1), (2, .int i2), (3, .int i3), (4, .int i4)] [] h (X15_comesAt_B177 a0 i1 i2 i3 i4 h) := by
  unfold X15_comesAt_B177
  refine J_iconst (v := nI 0) dX15_comesAt_177 rfl ?_
  refine J_istore dX15_comesAt_178 (by decide) (SD.a (lvr := [(0, rv (zx x) a0), (1, .int i1), (2, .int i2), (3, .int i3), (4, .int i4)]) [0, 1, 2, 3, 4] rfl rfl) ?_
  exact J_sub [1, 2, 3, 4, 5, 0] rfl (jX15_comesAt_B180 x FU a0 i1 i2 i3 i4 (nI 0) h)
def X15_comesAt_B144 (a0 : Nat) (i1 : Int32) (i2 : Int32) (i3 : Int32) (i4 : Int32) (h : AH) : Option (Int32 × AH) :=
  G (xc h a0 = 15) <|
  BN (X15_keptFrom_f a0 i1 i2 i3 h) fun v3 h2 =>
  if v3 = (-1) then (
    X15_comesAt_B177 a0 i1 i2 i3 i4 h2
  ) else (
    G (xc h2 a0 = 15) <|
    BN (X15_rowsAt_f a0 i1 v3 i3 h2) fun v6 h5 =>
    G (xc h5 a0 = 15) <|
    LT (i4 ||| (v6 &&& (xI h5 a0 23))) fun v8 =>
    X15_comesAt_B177 a0 i1 i2 i3 v8 h5
  )
theorem jX15_comesAt_B144 (x : CT) (a0 : Nat) (i1 : Int32) (i2 : Int32) (i3 : Int32) (i4 : Int32) (h : AH) : J x qX15_comesAt ZI 144 [(0, rv (zx x) a0), (1, .int i1), (2, .int i2), (3, .int i3), (4, .int i4)] [] h (X15_comesAt_B144 a0 i1 i2 i3 i4 h) := by
  unfold X15_comesAt_B144
  refine J_aload_n 0 dX15_comesAt_144 rv_is rfl ?_
  refine J_iload_n 1 dX15_comesAt_145 rfl ?_
  refine J_iload_n 2 dX15_comesAt_146 rfl ?_
  refine J_iload_n 3 dX15_comesAt_147 rfl ?_
  refine J_G (fun g1 => ?_)
  refine J.callV (n := 3) (As := [.int i1, .int i2, .int i3]) kc_15 (ctX15_keptFrom (lx x) (wx x) a0 i1 i2 i3 h) kw_8_181 kw_8_178 kw_8_180 kp_34 kw_1_13 (by decide +kernel) rfl (by decide) (Nat.zero_le _) rfl dX15_comesAt_148 g1 (fun v3 h2 => ?_)
  show J x _ _ 151 _ [.int v3] h2 _
  refine J_istore dX15_comesAt_151 (by decide) (SD.a (lvr := [(0, rv (zx x) a0), (1, .int i1), (2, .int i2), (3, .int i3), (4, .int i4)]) [0, 1, 2, 3, 4] rfl rfl) ?_
  refine J_iload 0 dX15_comesAt_153 rfl ?_
  refine J_iconst (v := (-1)) dX15_comesAt_155 rfl ?_
  refine J_icmp_eq (tgt := 177) dX15_comesAt_156 rfl ?_ ?_
  · exact J_sub [1, 2, 3, 4, 5] rfl (jX15_comesAt_B177 x a0 i1 i2 i3 i4 h2)
  · refine J_iload 5 dX15_comesAt_159 rfl ?_
    refine J_aload_n 1 dX15_comesAt_161 rv_is rfl ?_
    refine J_iload_n 2 dX15_comesAt_162 rfl ?_
    refine J_iload 0 dX15_comesAt_163 rfl ?_
    refine J_iload_n 4 dX15_comesAt_165 rfl ?_
    refine J_G (fun g4 => ?_)
    refine J.callV (n := 3) (As := [.int i1, .int v3, .int i3]) kc_15 (ctX15_rowsAt (lx x) (wx x) a0 i1 v3 i3 h2) kw_8_185 kw_8_182 kw_8_184 kp_35 kw_1_13 (by decide +kernel) rfl (by decide) (by simp [rv_cat, cat_I, cat_L, cat_S]) rfl dX15_comesAt_166 g4 (fun v6 h5 => ?_)
    show J x _ _ 169 _ [.int v6, .int i4] h5 _
    refine J_aload_n 1 dX15_comesAt_169 rv_is rfl ?_
    refine J_G (fun g7 => ?_)
    refine J_getI kc_15 23 (by decide) rfl rfl kw_6_233 dX15_comesAt_170 g7 ?_
    refine J_iand dX15_comesAt_173 ?_
    refine J_ior dX15_comesAt_174 ?_
    refine J_LTi (fun v8 => ?_)
    refine J_istore dX15_comesAt_175 (by decide) (SD.a (lvr := [(0, rv (zx x) a0), (1, .int i1), (2, .int i2), (3, .int i3)]) [1, 2, 3, 4] rfl rfl) ?_
    exact J_sub [1, 2, 3, 4, 0] rfl (jX15_comesAt_B177 x a0 i1 i2 i3 v8 h5)
def X15_comesAt_B138 (k54 : (Nat → Int32 → Int32 → Int32 → Int32 → Int32 → AH → Option (Int32 × AH))) (a0 : Nat) (i1 : Int32) (i2 : Int32) (i3 : Int32) (i4 : Int32) (i5 : Int32) (h : AH) : Option (Int32 × AH) :=
  LT (i5 + nI 1) fun v1 =>
  k54 a0 i1 i2 i3 i4 v1 h
theorem jX15_comesAt_B138 (x : CT) (k54 : (Nat → Int32 → Int32 → Int32 → Int32 → Int32 → AH → Option (Int32 × AH))) (hk54 : ∀ (a0 : Nat) (i1 : Int32) (i2 : Int32) (i3 : Int32) (i4 : Int32) (i5 : Int32) (h : AH), J x qX15_comesAt ZI 54 [(0, rv (zx x) a0), (1, .int i1), (2, .int i2), (3, .int i3), (4, .int i4), (5, .int i5)] [] h (k54 a0 i1 i2 i3 i4 i5 h)) (a0 : Nat) (i1 : Int32) (i2 : Int32) (i3 : Int32) (i4 : Int32) (i5 : Int32) (h : AH) : J x qX15_comesAt ZI 138 [(0, rv (zx x) a0), (1, .int i1), (2, .int i2), (3, .int i3), (4, .int i4), (5, .int i5)] [] h (X15_comesAt_B138 k54 a0 i1 i2 i3 i4 i5 h) := by
  unfold X15_comesAt_B138
  refine J_iincL (u := i5 + nI 1) 5 dX15_comesAt_138 rfl rfl (by decide) (SD.a (lvr := [(0, rv (zx x) a0), (1, .int i1), (2, .int i2), (3, .int i3), (4, .int i4)]) [0, 1, 2, 3, 4] rfl rfl) (fun v1 => ?_)
  refine J_goto (tgt := 54) dX15_comesAt_141 rfl ?_
  exact J_sub [1, 2, 3, 4, 5, 0] rfl (hk54 a0 i1 i2 i3 i4 v1 h)
def X15_comesAt_B129 (k54 : (Nat → Int32 → Int32 → Int32 → Int32 → Int32 → AH → Option (Int32 × AH))) (k69 : (Nat → Int32 → Int32 → Int32 → Int32 → Int32 → Int32 → AH → Option (Int32 × AH))) (a0 : Nat) (i1 : Int32) (i2 : Int32) (i3 : Int32) (i5 : Int32) (i6 : Int32) (is0 : Int32) (is1 : Int32) (h : AH) : Option (Int32 × AH) :=
  LT (is1 ||| is0) fun v1 =>
  LT (i6 + nI 1) fun v2 =>
  k69 a0 i1 i2 i3 v1 i5 v2 h
theorem jX15_comesAt_B129 (x : CT) (k54 : (Nat → Int32 → Int32 → Int32 → Int32 → Int32 → AH → Option (Int32 × AH))) (hk54 : ∀ (a0 : Nat) (i1 : Int32) (i2 : Int32) (i3 : Int32) (i4 : Int32) (i5 : Int32) (h : AH), J x qX15_comesAt ZI 54 [(0, rv (zx x) a0), (1, .int i1), (2, .int i2), (3, .int i3), (4, .int i4), (5, .int i5)] [] h (k54 a0 i1 i2 i3 i4 i5 h)) (k69 : (Nat → Int32 → Int32 → Int32 → Int32 → Int32 → Int32 → AH → Option (Int32 × AH))) (hk69 : ∀ (a0 : Nat) (i1 : Int32) (i2 : Int32) (i3 : Int32) (i4 : Int32) (i5 : Int32) (i6 : Int32) (h : AH), J x qX15_comesAt ZI 69 [(0, rv (zx x) a0), (1, .int i1), (2, .int i2), (3, .int i3), (4, .int i4), (5, .int i5), (6, .int i6)] [] h (k69 a0 i1 i2 i3 i4 i5 i6 h)) (a0 : Nat) (i1 : Int32) (i2 : Int32) (i3 : Int32) (i5 : Int32) (i6 : Int32) (is0 : Int32) (is1 : Int32) (h : AH) : J x qX15_comesAt ZI 129 [(0, rv (zx x) a0), (1, .int i1), (2, .int i2), (3, .int i3), (5, .int i5), (6, .int i6)] [.int is0, .int is1] h (X15_comesAt_B129 k54 k69 a0 i1 i2 i3 i5 i6 is0 is1 h) := by
  unfold X15_comesAt_B129
  refine J_ior dX15_comesAt_129 ?_
  refine J_LTi (fun v1 => ?_)
  refine J_istore dX15_comesAt_130 (by decide) (SD.a (lvr := [(0, rv (zx x) a0), (1, .int i1), (2, .int i2), (3, .int i3), (5, .int i5), (6, .int i6)]) [0, 1, 2, 3, 4, 5] rfl rfl) ?_
  refine J_iincL (u := i6 + nI 1) 6 dX15_comesAt_132 rfl rfl (by decide) (SD.a (lvr := [(4, .int v1), (0, rv (zx x) a0), (1, .int i1), (2, .int i2), (3, .int i3), (5, .int i5)]) [0, 1, 2, 3, 4, 5] rfl rfl) (fun v2 => ?_)
  refine J_goto (tgt := 69) dX15_comesAt_135 rfl ?_
  exact J_sub [2, 3, 4, 5, 1, 6, 0] rfl (hk69 a0 i1 i2 i3 v1 i5 v2 h)
def X15_comesAt_B69 (k54 : (Nat → Int32 → Int32 → Int32 → Int32 → Int32 → AH → Option (Int32 × AH))) : Nat → Nat → Int32 → Int32 → Int32 → Int32 → Int32 → Int32 → AH → Option (Int32 × AH)
  | 0, _, _, _, _, _, _, _, _ => none
  | n + 1, a0, i1, i2, i3, i4, i5, i6, h =>
    if i2 ≤ i6 then (
      X15_comesAt_B138 k54 a0 i1 i2 i3 i4 i5 h
    ) else (
      G (xc h a0 = 15) <|
      G (xc h (xR h a0 4) = 12) <|
      G (xc h (xR h (xR h a0 4) 18) = 16) <|
      G (gx i5 (xz h (xR h (xR h a0 4) 18))) <|
      if (xI h (xR h (xR h a0 4) 18) i5.toNatClampNeg) = i3 then (
        G (xc h a0 = 15) <|
        G (xc h (xR h a0 30) = 16) <|
        G (gx ((((nI 42) * i1) + ((nI 7) * i5)) + i6) (xz h (xR h a0 30))) <|
        if (xI h (xR h a0 30) ((((nI 42) * i1) + ((nI 7) * i5)) + i6).toNatClampNeg) = i2 then (
          G (xc h a0 = 15) <|
          G (xc h (xR h a0 4) = 12) <|
          G (xc h (xR h (xR h a0 4) 17) = 16) <|
          G (gx i5 (xz h (xR h (xR h a0 4) 17))) <|
          X15_comesAt_B129 k54 (X15_comesAt_B69 k54 n) a0 i1 i2 i3 i5 i6 ((nI 1) <<< ((xI h (xR h (xR h a0 4) 17) i5.toNatClampNeg) &&& 31)) i4 h
        ) else (
          X15_comesAt_B129 k54 (X15_comesAt_B69 k54 n) a0 i1 i2 i3 i5 i6 (nI 0) i4 h
        )
      ) else (
        X15_comesAt_B138 k54 a0 i1 i2 i3 i4 i5 h
      )
    )
theorem jX15_comesAt_B69 (x : CT) (k54 : (Nat → Int32 → Int32 → Int32 → Int32 → Int32 → AH → Option (Int32 × AH))) (hk54 : ∀ (a0 : Nat) (i1 : Int32) (i2 : Int32) (i3 : Int32) (i4 : Int32) (i5 : Int32) (h : AH), J x qX15_comesAt ZI 54 [(0, rv (zx x) a0), (1, .int i1), (2, .int i2), (3, .int i3), (4, .int i4), (5, .int i5)] [] h (k54 a0 i1 i2 i3 i4 i5 h)) : ∀ (n : Nat) (a0 : Nat) (i1 : Int32) (i2 : Int32) (i3 : Int32) (i4 : Int32) (i5 : Int32) (i6 : Int32) (h : AH), J x qX15_comesAt ZI 69 [(0, rv (zx x) a0), (1, .int i1), (2, .int i2), (3, .int i3), (4, .int i4), (5, .int i5), (6, .int i6)] [] h (X15_comesAt_B69 k54 n a0 i1 i2 i3 i4 i5 i6 h) := by
  intro n
  induction n with
  | zero => intro a0 i1 i2 i3 i4 i5 i6 h; exact J_none
  | succ n ih =>
    intro a0 i1 i2 i3 i4 i5 i6 h
    unfold X15_comesAt_B69
    refine J_iload 6 dX15_comesAt_69 rfl ?_
    refine J_iload_n 2 dX15_comesAt_71 rfl ?_
    refine J_icmp_ge (tgt := 138) dX15_comesAt_72 rfl ?_ ?_
    · exact J_sub [0, 1, 2, 3, 4, 5] rfl (jX15_comesAt_B138 x k54 hk54 a0 i1 i2 i3 i4 i5 h)
    · refine J_aload_n 0 dX15_comesAt_75 rv_is rfl ?_
      refine J_G (fun g1 => ?_)
      refine J_getR kc_15 4 (by decide) rfl rfl kw_6_214 dX15_comesAt_76 g1 ?_
      refine J_G (fun g2 => ?_)
      refine J_getRN kc_12 18 (by decide) rfl rfl kn_42 dX15_comesAt_79 g2 ?_
      refine J_iload 5 dX15_comesAt_82 rfl ?_
      refine J_G (fun g3 => ?_)
      refine J_G (fun g4 => ?_)
      refine J_iald dX15_comesAt_84 g3 g4 ?_
      refine J_iload_n 3 dX15_comesAt_85 rfl ?_
      refine J_icmp_ne (tgt := 138) dX15_comesAt_86 rfl ?_ ?_
      · exact J_sub [0, 1, 2, 3, 4, 5] rfl (jX15_comesAt_B138 x k54 hk54 a0 i1 i2 i3 i4 i5 h)
      · refine J_iload 4 dX15_comesAt_89 rfl ?_
        refine J_aload_n 0 dX15_comesAt_91 rv_is rfl ?_
        refine J_G (fun g5 => ?_)
        refine J_getR kc_15 30 (by decide) rfl rfl kw_7_0 dX15_comesAt_92 g5 ?_
        refine J_bipush (v := nI 42) dX15_comesAt_95 rfl ?_
        refine J_iload_n 1 dX15_comesAt_97 rfl ?_
        refine J_imul dX15_comesAt_98 ?_
        refine J_bipush (v := nI 7) dX15_comesAt_99 rfl ?_
        refine J_iload 5 dX15_comesAt_101 rfl ?_
        refine J_imul dX15_comesAt_103 ?_
        refine J_iadd dX15_comesAt_104 ?_
        refine J_iload 6 dX15_comesAt_105 rfl ?_
        refine J_iadd dX15_comesAt_107 ?_
        refine J_G (fun g6 => ?_)
        refine J_G (fun g7 => ?_)
        refine J_iald dX15_comesAt_108 g6 g7 ?_
        refine J_iload_n 2 dX15_comesAt_109 rfl ?_
        refine J_icmp_ne (tgt := 128) dX15_comesAt_110 rfl ?_ ?_
        · refine J_iconst (v := nI 0) dX15_comesAt_128 rfl ?_
          exact J_sub [0, 1, 2, 3, 5, 6] rfl (jX15_comesAt_B129 x k54 hk54 (X15_comesAt_B69 k54 n) ih a0 i1 i2 i3 i5 i6 (nI 0) i4 h)
        · refine J_iconst (v := nI 1) dX15_comesAt_113 rfl ?_
          refine J_aload_n 0 dX15_comesAt_114 rv_is rfl ?_
          refine J_G (fun g8 => ?_)
          refine J_getR kc_15 4 (by decide) rfl rfl kw_6_214 dX15_comesAt_115 g8 ?_
          refine J_G (fun g9 => ?_)
          refine J_getRN kc_12 17 (by decide) rfl rfl kn_41 dX15_comesAt_118 g9 ?_
          refine J_iload 5 dX15_comesAt_121 rfl ?_
          refine J_G (fun g10 => ?_)
          refine J_G (fun g11 => ?_)
          refine J_iald dX15_comesAt_123 g10 g11 ?_
          refine J_ishl dX15_comesAt_124 ?_
          refine J_goto (tgt := 129) dX15_comesAt_125 rfl ?_
          exact J_sub [0, 1, 2, 3, 5, 6] rfl (jX15_comesAt_B129 x k54 hk54 (X15_comesAt_B69 k54 n) ih a0 i1 i2 i3 i5 i6 ((nI 1) <<< ((xI h (xR h (xR h a0 4) 17) i5.toNatClampNeg) &&& 31)) i4 h)
def X15_comesAt_B54 : Nat → Nat → Int32 → Int32 → Int32 → Int32 → Int32 → AH → Option (Int32 × AH)
  | 0, _, _, _, _, _, _, _ => none
  | n + 1, a0, i1, i2, i3, i4, i5, h =>
    G (xc h a0 = 15) <|
    G (xc h (xR h a0 4) = 12) <|
    if (xI h (xR h a0 4) 6) ≤ i5 then (
      X15_comesAt_B144 a0 i1 i2 i3 i4 h
    ) else (
      X15_comesAt_B69 (X15_comesAt_B54 n) FU a0 i1 i2 i3 i4 i5 (nI 0) h
    )
theorem jX15_comesAt_B54 (x : CT) : ∀ (n : Nat) (a0 : Nat) (i1 : Int32) (i2 : Int32) (i3 : Int32) (i4 : Int32) (i5 : Int32) (h : AH), J x qX15_comesAt ZI 54 [(0, rv (zx x) a0), (1, .int i1), (2, .int i2), (3, .int i3), (4, .int i4), (5, .int i5)] [] h (X15_comesAt_B54 n a0 i1 i2 i3 i4 i5 h) := by
  intro n
  induction n with
  | zero => intro a0 i1 i2 i3 i4 i5 h; exact J_none
  | succ n ih =>
    intro a0 i1 i2 i3 i4 i5 h
    unfold X15_comesAt_B54
    refine J_iload 5 dX15_comesAt_54 rfl ?_
    refine J_aload_n 0 dX15_comesAt_56 rv_is rfl ?_
    refine J_G (fun g1 => ?_)
    refine J_getR kc_15 4 (by decide) rfl rfl kw_6_214 dX15_comesAt_57 g1 ?_
    refine J_G (fun g2 => ?_)
    refine J_getIN kc_12 6 (by decide) rfl rfl kn_30 dX15_comesAt_60 g2 ?_
    refine J_icmp_ge (tgt := 144) dX15_comesAt_63 rfl ?_ ?_
    · exact J_sub [0, 1, 2, 3, 4] rfl (jX15_comesAt_B144 x a0 i1 i2 i3 i4 h)
    · refine J_iconst (v := nI 0) dX15_comesAt_66 rfl ?_
      refine J_istore dX15_comesAt_67 (by decide) (SD.a (lvr := [(0, rv (zx x) a0), (1, .int i1), (2, .int i2), (3, .int i3), (4, .int i4), (5, .int i5)]) [0, 1, 2, 3, 4, 5] rfl rfl) ?_
      exact J_sub [1, 2, 3, 4, 5, 6, 0] rfl (jX15_comesAt_B69 x (X15_comesAt_B54 n) ih FU a0 i1 i2 i3 i4 i5 (nI 0) h)
def X15_comesAt_B51 (a0 : Nat) (i1 : Int32) (i2 : Int32) (i3 : Int32) (i4 : Int32) (h : AH) : Option (Int32 × AH) :=
  X15_comesAt_B54 FU a0 i1 i2 i3 i4 (nI 0) h
theorem jX15_comesAt_B51 (x : CT) (a0 : Nat) (i1 : Int32) (i2 : Int32) (i3 : Int32) (i4 : Int32) (h : AH) : J x qX15_comesAt ZI 51 [(0, rv (zx x) a0), (1, .int i1), (2, .int i2), (3, .int i3), (4, .int i4)] [] h (X15_comesAt_B51 a0 i1 i2 i3 i4 h) := by
  unfold X15_comesAt_B51
  refine J_iconst (v := nI 0) dX15_comesAt_51 rfl ?_
  refine J_istore dX15_comesAt_52 (by decide) (SD.a (lvr := [(0, rv (zx x) a0), (1, .int i1), (2, .int i2), (3, .int i3), (4, .int i4)]) [0, 1, 2, 3, 4] rfl rfl) ?_
  exact J_sub [1, 2, 3, 4, 5, 0] rfl (jX15_comesAt_B54 x FU a0 i1 i2 i3 i4 (nI 0) h)
def X15_comesAt_B42 (k6 : (Nat → Int32 → Int32 → Int32 → Int32 → Int32 → AH → Option (Int32 × AH))) (a0 : Nat) (i1 : Int32) (i2 : Int32) (i3 : Int32) (i5 : Int32) (is0 : Int32) (is1 : Int32) (h : AH) : Option (Int32 × AH) :=
  LT (is1 ||| is0) fun v1 =>
  LT (i5 + nI 1) fun v2 =>
  k6 a0 i1 i2 i3 v1 v2 h
theorem jX15_comesAt_B42 (x : CT) (k6 : (Nat → Int32 → Int32 → Int32 → Int32 → Int32 → AH → Option (Int32 × AH))) (hk6 : ∀ (a0 : Nat) (i1 : Int32) (i2 : Int32) (i3 : Int32) (i4 : Int32) (i5 : Int32) (h : AH), J x qX15_comesAt ZI 6 [(0, rv (zx x) a0), (1, .int i1), (2, .int i2), (3, .int i3), (4, .int i4), (5, .int i5)] [] h (k6 a0 i1 i2 i3 i4 i5 h)) (a0 : Nat) (i1 : Int32) (i2 : Int32) (i3 : Int32) (i5 : Int32) (is0 : Int32) (is1 : Int32) (h : AH) : J x qX15_comesAt ZI 42 [(0, rv (zx x) a0), (1, .int i1), (2, .int i2), (3, .int i3), (5, .int i5)] [.int is0, .int is1] h (X15_comesAt_B42 k6 a0 i1 i2 i3 i5 is0 is1 h) := by
  unfold X15_comesAt_B42
  refine J_ior dX15_comesAt_42 ?_
  refine J_LTi (fun v1 => ?_)
  refine J_istore dX15_comesAt_43 (by decide) (SD.a (lvr := [(0, rv (zx x) a0), (1, .int i1), (2, .int i2), (3, .int i3), (5, .int i5)]) [0, 1, 2, 3, 4] rfl rfl) ?_
  refine J_iincL (u := i5 + nI 1) 5 dX15_comesAt_45 rfl rfl (by decide) (SD.a (lvr := [(4, .int v1), (0, rv (zx x) a0), (1, .int i1), (2, .int i2), (3, .int i3)]) [0, 1, 2, 3, 4] rfl rfl) (fun v2 => ?_)
  refine J_goto (tgt := 6) dX15_comesAt_48 rfl ?_
  exact J_sub [2, 3, 4, 5, 1, 0] rfl (hk6 a0 i1 i2 i3 v1 v2 h)
def X15_comesAt_B6 : Nat → Nat → Int32 → Int32 → Int32 → Int32 → Int32 → AH → Option (Int32 × AH)
  | 0, _, _, _, _, _, _, _ => none
  | n + 1, a0, i1, i2, i3, i4, i5, h =>
    G (xc h a0 = 15) <|
    G (xc h (xR h a0 4) = 12) <|
    if (xI h (xR h a0 4) 2) ≤ i5 then (
      X15_comesAt_B51 a0 i1 i2 i3 i4 h
    ) else (
      if i2 = 0 then (
        G (xc h a0 = 15) <|
        BN (X15_isFact_f a0 i5 i3 h) fun v5 h4 =>
        if v5 = 0 then (
          X15_comesAt_B42 (X15_comesAt_B6 n) a0 i1 i2 i3 i5 (nI 0) i4 h4
        ) else (
          X15_comesAt_B42 (X15_comesAt_B6 n) a0 i1 i2 i3 i5 ((nI 1) <<< (i5 &&& 31)) i4 h4
        )
      ) else (
        X15_comesAt_B51 a0 i1 i2 i3 i4 h
      )
    )
theorem jX15_comesAt_B6 (x : CT) : ∀ (n : Nat) (a0 : Nat) (i1 : Int32) (i2 : Int32) (i3 : Int32) (i4 : Int32) (i5 : Int32) (h : AH), J x qX15_comesAt ZI 6 [(0, rv (zx x) a0), (1, .int i1), (2, .int i2), (3, .int i3), (4, .int i4), (5, .int i5)] [] h (X15_comesAt_B6 n a0 i1 i2 i3 i4 i5 h) := by
  intro n
  induction n with
  | zero => intro a0 i1 i2 i3 i4 i5 h; exact J_none
  | succ n ih =>
    intro a0 i1 i2 i3 i4 i5 h
    unfold X15_comesAt_B6
    refine J_iload 5 dX15_comesAt_6 rfl ?_
    refine J_aload_n 0 dX15_comesAt_8 rv_is rfl ?_
    refine J_G (fun g1 => ?_)
    refine J_getR kc_15 4 (by decide) rfl rfl kw_6_214 dX15_comesAt_9 g1 ?_
    refine J_G (fun g2 => ?_)
    refine J_getIN kc_12 2 (by decide) rfl rfl kn_26 dX15_comesAt_12 g2 ?_
    refine J_icmp_ge (tgt := 51) dX15_comesAt_15 rfl ?_ ?_
    · exact J_sub [0, 1, 2, 3, 4] rfl (jX15_comesAt_B51 x a0 i1 i2 i3 i4 h)
    · refine J_iload_n 2 dX15_comesAt_18 rfl ?_
      refine J_if_ne (tgt := 51) dX15_comesAt_19 rfl ?_ ?_
      · exact J_sub [0, 1, 2, 3, 4] rfl (jX15_comesAt_B51 x a0 i1 i2 i3 i4 h)
      · refine J_iload 4 dX15_comesAt_22 rfl ?_
        refine J_aload_n 0 dX15_comesAt_24 rv_is rfl ?_
        refine J_iload 5 dX15_comesAt_25 rfl ?_
        refine J_iload_n 3 dX15_comesAt_27 rfl ?_
        refine J_G (fun g3 => ?_)
        refine J.callV (n := 2) (As := [.int i5, .int i3]) kc_15 (ctX15_isFact (lx x) (wx x) a0 i5 i3 h) kw_8_174 kw_8_171 kw_8_173 kp_33 kw_1_13 (by decide +kernel) rfl (by decide) (by simp [rv_cat, cat_I, cat_L, cat_S]) rfl dX15_comesAt_28 g3 (fun v5 h4 => ?_)
        show J x _ _ 31 _ [.int v5, .int i4] h4 _
        refine J_if_eq (tgt := 41) dX15_comesAt_31 rfl ?_ ?_
        · refine J_iconst (v := nI 0) dX15_comesAt_41 rfl ?_
          exact J_sub [0, 1, 2, 3, 5] rfl (jX15_comesAt_B42 x (X15_comesAt_B6 n) ih a0 i1 i2 i3 i5 (nI 0) i4 h4)
        · refine J_iconst (v := nI 1) dX15_comesAt_34 rfl ?_
          refine J_iload 5 dX15_comesAt_35 rfl ?_
          refine J_ishl dX15_comesAt_37 ?_
          refine J_goto (tgt := 42) dX15_comesAt_38 rfl ?_
          exact J_sub [0, 1, 2, 3, 5] rfl (jX15_comesAt_B42 x (X15_comesAt_B6 n) ih a0 i1 i2 i3 i5 ((nI 1) <<< (i5 &&& 31)) i4 h4)
def X15_comesAt_f (a0 : Nat) (i1 : Int32) (i2 : Int32) (i3 : Int32) (h : AH) : Option (Int32 × AH) :=
  X15_comesAt_B6 FU a0 i1 i2 i3 (nI 0) (nI 0) h
theorem jX15_comesAt (x : CT) (a0 : Nat) (i1 : Int32) (i2 : Int32) (i3 : Int32) (h : AH) : J x qX15_comesAt ZI 0 [(0, rv (zx x) a0), (1, .int i1), (2, .int i2), (3, .int i3)] [] h (X15_comesAt_f a0 i1 i2 i3 h) := by
  unfold X15_comesAt_f
  refine J_iconst (v := nI 0) dX15_comesAt_0 rfl ?_
  refine J_istore dX15_comesAt_1 (by decide) (SD.a (lvr := [(0, rv (zx x) a0), (1, .int i1), (2, .int i2), (3, .int i3)]) [0, 1, 2, 3] rfl rfl) ?_
  refine J_iconst (v := nI 0) dX15_comesAt_3 rfl ?_
  refine J_istore dX15_comesAt_4 (by decide) (SD.a (lvr := [(4, .int (nI 0)), (0, rv (zx x) a0), (1, .int i1), (2, .int i2), (3, .int i3)]) [0, 1, 2, 3, 4] rfl rfl) ?_
  exact J_sub [2, 3, 4, 5, 1, 0] rfl (jX15_comesAt_B6 x FU a0 i1 i2 i3 (nI 0) (nI 0) h)
theorem ctX15_comesAt (l : Launch) (w : WT) (a0 : Nat) (i1 : Int32) (i2 : Int32) (i3 : Int32) (h : AH) : CM l w yX15_comesAt cX15_comesAt 7 (some .int) 3 67 KI [rv (w.1) a0, .int i1, .int i2, .int i3] h (X15_comesAt_f a0 i1 i2 i3 h) :=
  CM.of (by decide +kernel) (by simp [lg_sl, rv_cat, cat_I, cat_L, cat_S]) (lv := [(0, rv (w.1) a0), (1, .int i1), (2, .int i2), (3, .int i3)]) (by simp [lv_args, rv_cat, cat_I, cat_L, cat_S]) (fun x hx => by subst hx; exact jX15_comesAt x a0 i1 i2 i3 h)
