-- FallTrialsLaw.law([I)Z
abbrev qL_law : MT := (cL_law, RL, "law", ret, 15, 562, 7)
def L_law_B1181 (xs : Nat → Int32) (Ls : Nat) (k23 : (Nat → Nat → Nat → Int32 → AH → Option (Int32 × AH))) (a1 : Nat) (a2 : Nat) (a3 : Nat) (i4 : Int32) (h : AH) : Option (Int32 × AH) :=
  LT (i4 + nI 6) fun v1 =>
  k23 a1 a2 a3 v1 h
theorem jL_law_B1181 (x : CT) (xs : Nat → Int32) (Ls : Nat) (hxs : xs = scx (wx x)) (hLs : Ls = scL (wx x)) (k23 : (Nat → Nat → Nat → Int32 → AH → Option (Int32 × AH))) (hk23 : ∀ (a1 : Nat) (a2 : Nat) (a3 : Nat) (i4 : Int32) (h : AH), J x qL_law Zlaw 23 [(0, scv (wx x)), (1, rv (zx x) a1), (2, rv (zx x) a2), (3, rv (zx x) a3), (4, .int i4)] [] h (k23 a1 a2 a3 i4 h)) (a1 : Nat) (a2 : Nat) (a3 : Nat) (i4 : Int32) (h : AH) : J x qL_law Zlaw 1181 [(0, scv (wx x)), (1, rv (zx x) a1), (2, rv (zx x) a2), (3, rv (zx x) a3), (4, .int i4)] [] h (L_law_B1181 xs Ls k23 a1 a2 a3 i4 h) := by
  unfold L_law_B1181
  refine J_iincL (u := i4 + nI 6) 4 dL_law_1181 rfl rfl (by decide) (SD.c (lvr := [(0, scv (wx x)), (1, rv (zx x) a1), (2, rv (zx x) a2), (3, rv (zx x) a3)]) [0, 1, 2, 3] rfl rfl 3 rfl rfl rv_cat) (fun v1 => ?_)
  refine J_goto (tgt := 23) dL_law_1184 rfl ?_
  exact J_sub [1, 2, 3, 4, 0] rfl (hk23 a1 a2 a3 v1 h)
def L_law_B1027 (xs : Nat → Int32) (Ls : Nat) (k23 : (Nat → Nat → Nat → Int32 → AH → Option (Int32 × AH))) (a1 : Nat) (a2 : Nat) (a3 : Nat) (i4 : Int32) (h : AH) : Option (Int32 × AH) :=
  L_law_B1181 xs Ls k23 a1 a2 a3 i4 h
theorem jL_law_B1027 (x : CT) (xs : Nat → Int32) (Ls : Nat) (hxs : xs = scx (wx x)) (hLs : Ls = scL (wx x)) (k23 : (Nat → Nat → Nat → Int32 → AH → Option (Int32 × AH))) (hk23 : ∀ (a1 : Nat) (a2 : Nat) (a3 : Nat) (i4 : Int32) (h : AH), J x qL_law Zlaw 23 [(0, scv (wx x)), (1, rv (zx x) a1), (2, rv (zx x) a2), (3, rv (zx x) a3), (4, .int i4)] [] h (k23 a1 a2 a3 i4 h)) (a1 : Nat) (a2 : Nat) (a3 : Nat) (i4 : Int32) (h : AH) : J x qL_law Zlaw 1027 [(0, scv (wx x)), (1, rv (zx x) a1), (2, rv (zx x) a2), (3, rv (zx x) a3), (4, .int i4)] [] h (L_law_B1027 xs Ls k23 a1 a2 a3 i4 h) := by
  unfold L_law_B1027
  refine J_goto (tgt := 1181) dL_law_1027 rfl ?_
  exact (jL_law_B1181 x xs Ls hxs hLs k23 hk23 a1 a2 a3 i4 h)
def L_law_B644 (xs : Nat → Int32) (Ls : Nat) (k23 : (Nat → Nat → Nat → Int32 → AH → Option (Int32 × AH))) (a1 : Nat) (a2 : Nat) (a3 : Nat) (i4 : Int32) (h : AH) : Option (Int32 × AH) :=
  L_law_B1181 xs Ls k23 a1 a2 a3 i4 h
theorem jL_law_B644 (x : CT) (xs : Nat → Int32) (Ls : Nat) (hxs : xs = scx (wx x)) (hLs : Ls = scL (wx x)) (k23 : (Nat → Nat → Nat → Int32 → AH → Option (Int32 × AH))) (hk23 : ∀ (a1 : Nat) (a2 : Nat) (a3 : Nat) (i4 : Int32) (h : AH), J x qL_law Zlaw 23 [(0, scv (wx x)), (1, rv (zx x) a1), (2, rv (zx x) a2), (3, rv (zx x) a3), (4, .int i4)] [] h (k23 a1 a2 a3 i4 h)) (a1 : Nat) (a2 : Nat) (a3 : Nat) (i4 : Int32) (h : AH) : J x qL_law Zlaw 644 [(0, scv (wx x)), (1, rv (zx x) a1), (2, rv (zx x) a2), (3, rv (zx x) a3), (4, .int i4)] [] h (L_law_B644 xs Ls k23 a1 a2 a3 i4 h) := by
  unfold L_law_B644
  refine J_goto (tgt := 1181) dL_law_644 rfl ?_
  exact (jL_law_B1181 x xs Ls hxs hLs k23 hk23 a1 a2 a3 i4 h)
def L_law_B23 (xs : Nat → Int32) (Ls : Nat) : Nat → Nat → Nat → Nat → Int32 → AH → Option (Int32 × AH)
  | 0, _, _, _, _, _ => none
  | n + 1, a1, a2, a3, i4, h =>
    if ((nI Ls) - (nI 6)) < i4 then (
      some (nI 1, h)
    ) else (
      G (gx i4 Ls) <|
      if ((xs i4.toNatClampNeg) &&& (nI 63)) = nI 0 then (
        G (gx (i4 + (nI 1)) Ls) <|
        G (gx (i4 + (nI 2)) Ls) <|
        G (gx (i4 + (nI 3)) Ls) <|
        G (gx (i4 + (nI 4)) Ls) <|
        G (gx (i4 + (nI 5)) Ls) <|
        G (xc h a1 = 11) <|
        BN (X11_feed_f a1 (xs (i4 + (nI 1)).toNatClampNeg) (xs (i4 + (nI 2)).toNatClampNeg) (xs (i4 + (nI 3)).toNatClampNeg) (xs (i4 + (nI 4)).toNatClampNeg) (xs (i4 + (nI 5)).toNatClampNeg) h) fun v9 h8 =>
        G (gx (i4 + (nI 1)) Ls) <|
        G (gx (i4 + (nI 2)) Ls) <|
        G (gx (i4 + (nI 3)) Ls) <|
        G (gx (i4 + (nI 4)) Ls) <|
        G (gx (i4 + (nI 5)) Ls) <|
        G (xc h8 a2 = 15) <|
        BN (X15_feed_f a2 (xs (i4 + (nI 1)).toNatClampNeg) (xs (i4 + (nI 2)).toNatClampNeg) (xs (i4 + (nI 3)).toNatClampNeg) (xs (i4 + (nI 4)).toNatClampNeg) (xs (i4 + (nI 5)).toNatClampNeg) h8) fun v17 h16 =>
        if v9 = v17 then (
          L_law_B1181 xs Ls (L_law_B23 xs Ls n) a1 a2 a3 i4 h16
        ) else (
          some (nI 0, h16)
        )
      ) else (
      if ((xs i4.toNatClampNeg) &&& (nI 63)) = nI 1 then (
        G (gx (i4 + (nI 1)) Ls) <|
        G (xc h a1 = 11) <|
        BN (X11_book_f a1 (xs (i4 + (nI 1)).toNatClampNeg) h) fun v22 h21 =>
        G (gx (i4 + (nI 1)) Ls) <|
        G (xc h21 a2 = 15) <|
        BN (X15_book_f a2 (xs (i4 + (nI 1)).toNatClampNeg) h21) fun v26 h25 =>
        if v22 = v26 then (
          L_law_B1181 xs Ls (L_law_B23 xs Ls n) a1 a2 a3 i4 h25
        ) else (
          some (nI 0, h25)
        )
      ) else (
      if ((xs i4.toNatClampNeg) &&& (nI 63)) = nI 2 then (
        G (xc h a1 = 11) <|
        BN (X11_fault_f a1 h) fun v30 h29 =>
        G (xc h29 a2 = 15) <|
        BN (X15_fault_f a2 h29) fun v33 h32 =>
        if v30 = v33 then (
          L_law_B1181 xs Ls (L_law_B23 xs Ls n) a1 a2 a3 i4 h32
        ) else (
          some (nI 0, h32)
        )
      ) else (
      if ((xs i4.toNatClampNeg) &&& (nI 63)) = nI 3 then (
        G (xc h a1 = 11) <|
        BN (X11_where_f a1 h) fun v37 h36 =>
        G (xc h36 a2 = 15) <|
        BN (X15_where_f a2 h36) fun v40 h39 =>
        if v37 = v40 then (
          L_law_B1181 xs Ls (L_law_B23 xs Ls n) a1 a2 a3 i4 h39
        ) else (
          some (nI 0, h39)
        )
      ) else (
      if ((xs i4.toNatClampNeg) &&& (nI 63)) = nI 4 then (
        G (gx (i4 + (nI 1)) Ls) <|
        G (xc h a1 = 11) <|
        BN (X11_last_f a1 (xs (i4 + (nI 1)).toNatClampNeg) h) fun v45 h44 =>
        G (gx (i4 + (nI 1)) Ls) <|
        G (xc h44 a2 = 15) <|
        BN (X15_last_f a2 (xs (i4 + (nI 1)).toNatClampNeg) h44) fun v49 h48 =>
        if v45 = v49 then (
          L_law_B1181 xs Ls (L_law_B23 xs Ls n) a1 a2 a3 i4 h48
        ) else (
          some (nI 0, h48)
        )
      ) else (
      if ((xs i4.toNatClampNeg) &&& (nI 63)) = nI 5 then (
        G (gx (i4 + (nI 1)) Ls) <|
        G (gx (i4 + (nI 2)) Ls) <|
        G (xc h a1 = 11) <|
        BN (X11_purse_f a1 (xs (i4 + (nI 1)).toNatClampNeg) (xs (i4 + (nI 2)).toNatClampNeg) h) fun v55 h54 =>
        G (gx (i4 + (nI 1)) Ls) <|
        G (gx (i4 + (nI 2)) Ls) <|
        G (xc h54 a2 = 15) <|
        BN (X15_purse_f a2 (xs (i4 + (nI 1)).toNatClampNeg) (xs (i4 + (nI 2)).toNatClampNeg) h54) fun v60 h59 =>
        if v55 = v60 then (
          L_law_B1181 xs Ls (L_law_B23 xs Ls n) a1 a2 a3 i4 h59
        ) else (
          some (nI 0, h59)
        )
      ) else (
      if ((xs i4.toNatClampNeg) &&& (nI 63)) = nI 6 then (
        G (gx (i4 + (nI 1)) Ls) <|
        G (gx (i4 + (nI 2)) Ls) <|
        G (gx (i4 + (nI 3)) Ls) <|
        G (xc h a1 = 11) <|
        BN (X11_fall_f a1 (xs (i4 + (nI 1)).toNatClampNeg) (xs (i4 + (nI 2)).toNatClampNeg) (xs (i4 + (nI 3)).toNatClampNeg) h) fun v67 h66 =>
        G (gx (i4 + (nI 1)) Ls) <|
        G (gx (i4 + (nI 2)) Ls) <|
        G (gx (i4 + (nI 3)) Ls) <|
        G (xc h66 a2 = 15) <|
        BN (X15_fall_f a2 (xs (i4 + (nI 1)).toNatClampNeg) (xs (i4 + (nI 2)).toNatClampNeg) (xs (i4 + (nI 3)).toNatClampNeg) h66) fun v73 h72 =>
        if v67 = v73 then (
          L_law_B1181 xs Ls (L_law_B23 xs Ls n) a1 a2 a3 i4 h72
        ) else (
          some (nI 0, h72)
        )
      ) else (
      if ((xs i4.toNatClampNeg) &&& (nI 63)) = nI 7 then (
        G (xc h a1 = 11) <|
        BN (X11_clear_f a1 h) fun v77 h76 =>
        G (xc h76 a2 = 15) <|
        BN (X15_clear_f a2 h76) fun v80 h79 =>
        if v77 = v80 then (
          L_law_B1181 xs Ls (L_law_B23 xs Ls n) a1 a2 a3 i4 h79
        ) else (
          some (nI 0, h79)
        )
      ) else (
      if ((xs i4.toNatClampNeg) &&& (nI 63)) = nI 8 then (
        G (xc h a1 = 11) <|
        BN (X11_run_f a1 h) fun v84 h83 =>
        G (xc h83 a2 = 15) <|
        BN (X15_run_f a2 h83) fun v87 h86 =>
        if v84 = v87 then (
          L_law_B1181 xs Ls (L_law_B23 xs Ls n) a1 a2 a3 i4 h86
        ) else (
          some (nI 0, h86)
        )
      ) else (
      if ((xs i4.toNatClampNeg) &&& (nI 63)) = nI 9 then (
        G (gx (i4 + (nI 1)) Ls) <|
        G (gx (i4 + (nI 2)) Ls) <|
        G (gx (i4 + (nI 3)) Ls) <|
        G (xc h a1 = 11) <|
        BN (X11_there_f a1 (xs (i4 + (nI 1)).toNatClampNeg) (xs (i4 + (nI 2)).toNatClampNeg) (xs (i4 + (nI 3)).toNatClampNeg) h) fun v94 h93 =>
        G (gx (i4 + (nI 1)) Ls) <|
        G (gx (i4 + (nI 2)) Ls) <|
        G (gx (i4 + (nI 3)) Ls) <|
        G (xc h93 a2 = 15) <|
        BN (X15_there_f a2 (xs (i4 + (nI 1)).toNatClampNeg) (xs (i4 + (nI 2)).toNatClampNeg) (xs (i4 + (nI 3)).toNatClampNeg) h93) fun v100 h99 =>
        if v94 = v100 then (
          L_law_B1181 xs Ls (L_law_B23 xs Ls n) a1 a2 a3 i4 h99
        ) else (
          some (nI 0, h99)
        )
      ) else (
      if ((xs i4.toNatClampNeg) &&& (nI 63)) = nI 10 then (
        G (gx (i4 + (nI 1)) Ls) <|
        G (gx (i4 + (nI 2)) Ls) <|
        G (gx (i4 + (nI 3)) Ls) <|
        G (xc h a1 = 11) <|
        BN (X11_reasons_f a1 (xs (i4 + (nI 1)).toNatClampNeg) (xs (i4 + (nI 2)).toNatClampNeg) (xs (i4 + (nI 3)).toNatClampNeg) h) fun v107 h106 =>
        G (gx (i4 + (nI 1)) Ls) <|
        G (gx (i4 + (nI 2)) Ls) <|
        G (gx (i4 + (nI 3)) Ls) <|
        G (xc h106 a2 = 15) <|
        BN (X15_reasons_f a2 (xs (i4 + (nI 1)).toNatClampNeg) (xs (i4 + (nI 2)).toNatClampNeg) (xs (i4 + (nI 3)).toNatClampNeg) h106) fun v113 h112 =>
        if v107 = v113 then (
          L_law_B1181 xs Ls (L_law_B23 xs Ls n) a1 a2 a3 i4 h112
        ) else (
          some (nI 0, h112)
        )
      ) else (
      if ((xs i4.toNatClampNeg) &&& (nI 63)) = nI 11 then (
        G (gx (i4 + (nI 1)) Ls) <|
        G (gx (i4 + (nI 2)) Ls) <|
        G (gx (i4 + (nI 3)) Ls) <|
        G (gx (i4 + (nI 4)) Ls) <|
        BN (L_reason_f a1 (xs (i4 + (nI 1)).toNatClampNeg) (xs (i4 + (nI 2)).toNatClampNeg) (xs (i4 + (nI 3)).toNatClampNeg) (xs (i4 + (nI 4)).toNatClampNeg) a3 h) fun v120 h119 =>
        G (gx (i4 + (nI 1)) Ls) <|
        G (gx (i4 + (nI 2)) Ls) <|
        G (gx (i4 + (nI 3)) Ls) <|
        G (gx (i4 + (nI 4)) Ls) <|
        G (xc h119 a2 = 15) <|
        BN (X15_reason_f a2 (xs (i4 + (nI 1)).toNatClampNeg) (xs (i4 + (nI 2)).toNatClampNeg) (xs (i4 + (nI 3)).toNatClampNeg) (xs (i4 + (nI 4)).toNatClampNeg) h119) fun v127 h126 =>
        G (xc h126 a2 = 15) <|
        BN (X15_thrown_f a2 h126) fun v130 h129 =>
        if v130 = v120 then (
          if v120 = 0 then (
            G (xc h129 a3 = 17) <|
            G (gx (nI 0) (xz h129 a3)) <|
            if (lg_cmp (xL h129 a3 (nI 0).toNatClampNeg) (v127.toInt64)) = 0 then (
              L_law_B644 xs Ls (L_law_B23 xs Ls n) a1 a2 a3 i4 h129
            ) else (
              some (nI 0, h129)
            )
          ) else (
            L_law_B644 xs Ls (L_law_B23 xs Ls n) a1 a2 a3 i4 h129
          )
        ) else (
          some (nI 0, h129)
        )
      ) else (
      if ((xs i4.toNatClampNeg) &&& (nI 63)) = nI 12 then (
        G (gx (i4 + (nI 1)) Ls) <|
        G (gx (i4 + (nI 2)) Ls) <|
        G (xc h a1 = 11) <|
        BN (X11_word_f a1 (xs (i4 + (nI 1)).toNatClampNeg) (xs (i4 + (nI 2)).toNatClampNeg) h) fun v138 h137 =>
        G (gx (i4 + (nI 1)) Ls) <|
        G (gx (i4 + (nI 2)) Ls) <|
        G (xc h137 a2 = 15) <|
        BN (X15_word_f a2 (xs (i4 + (nI 1)).toNatClampNeg) (xs (i4 + (nI 2)).toNatClampNeg) h137) fun v143 h142 =>
        if v138 = v143 then (
          L_law_B1181 xs Ls (L_law_B23 xs Ls n) a1 a2 a3 i4 h142
        ) else (
          some (nI 0, h142)
        )
      ) else (
      if ((xs i4.toNatClampNeg) &&& (nI 63)) = nI 13 then (
        G (gx (i4 + (nI 1)) Ls) <|
        G (xc h a1 = 11) <|
        BN (X11_differs_f a1 (xs (i4 + (nI 1)).toNatClampNeg) h) fun v148 h147 =>
        G (gx (i4 + (nI 1)) Ls) <|
        G (xc h147 a2 = 15) <|
        BN (X15_differs_f a2 (xs (i4 + (nI 1)).toNatClampNeg) h147) fun v152 h151 =>
        if v148 = v152 then (
          L_law_B1181 xs Ls (L_law_B23 xs Ls n) a1 a2 a3 i4 h151
        ) else (
          some (nI 0, h151)
        )
      ) else (
      if ((xs i4.toNatClampNeg) &&& (nI 63)) = nI 14 then (
        G (xc h a1 = 11) <|
        BN (X11_spoils_f a1 h) fun v156 h155 =>
        G (xc h155 a2 = 15) <|
        BN (X15_spoils_f a2 h155) fun v159 h158 =>
        if v156 = v159 then (
          L_law_B1181 xs Ls (L_law_B23 xs Ls n) a1 a2 a3 i4 h158
        ) else (
          some (nI 0, h158)
        )
      ) else (
      if ((xs i4.toNatClampNeg) &&& (nI 63)) = nI 15 then (
        G (gx (i4 + (nI 1)) Ls) <|
        G (gx (i4 + (nI 2)) Ls) <|
        G (gx (i4 + (nI 3)) Ls) <|
        G (xc h a1 = 11) <|
        BN (X11_stands_f a1 (xs (i4 + (nI 1)).toNatClampNeg) (xs (i4 + (nI 2)).toNatClampNeg) (xs (i4 + (nI 3)).toNatClampNeg) h) fun v166 h165 =>
        G (gx (i4 + (nI 1)) Ls) <|
        G (gx (i4 + (nI 2)) Ls) <|
        G (gx (i4 + (nI 3)) Ls) <|
        G (xc h165 a2 = 15) <|
        BN (X15_stands_f a2 (xs (i4 + (nI 1)).toNatClampNeg) (xs (i4 + (nI 2)).toNatClampNeg) (xs (i4 + (nI 3)).toNatClampNeg) h165) fun v172 h171 =>
        if v166 = v172 then (
          L_law_B1181 xs Ls (L_law_B23 xs Ls n) a1 a2 a3 i4 h171
        ) else (
          some (nI 0, h171)
        )
      ) else (
      if ((xs i4.toNatClampNeg) &&& (nI 63)) = nI 16 then (
        G (gx (i4 + (nI 1)) Ls) <|
        G (xc h a1 = 11) <|
        BN (X11_trial_f a1 (xs (i4 + (nI 1)).toNatClampNeg) h) fun v177 h176 =>
        G (gx (i4 + (nI 1)) Ls) <|
        G (xc h176 a2 = 15) <|
        BN (X15_trial_f a2 (xs (i4 + (nI 1)).toNatClampNeg) h176) fun v181 h180 =>
        if v177 = v181 then (
          L_law_B1181 xs Ls (L_law_B23 xs Ls n) a1 a2 a3 i4 h180
        ) else (
          some (nI 0, h180)
        )
      ) else (
      if ((xs i4.toNatClampNeg) &&& (nI 63)) = nI 17 then (
        G (xc h a1 = 11) <|
        BN (X11_tried_f a1 h) fun v185 h184 =>
        G (xc h184 a2 = 15) <|
        BN (X15_tried_f a2 h184) fun v188 h187 =>
        if v185 = v188 then (
          L_law_B1181 xs Ls (L_law_B23 xs Ls n) a1 a2 a3 i4 h187
        ) else (
          some (nI 0, h187)
        )
      ) else (
      if ((xs i4.toNatClampNeg) &&& (nI 63)) = nI 18 then (
        G (xc h a1 = 11) <|
        BN (X11_known_f a1 h) fun v192 h191 =>
        G (xc h191 a2 = 15) <|
        BN (X15_known_f a2 h191) fun v195 h194 =>
        if v192 = v195 then (
          L_law_B1181 xs Ls (L_law_B23 xs Ls n) a1 a2 a3 i4 h194
        ) else (
          some (nI 0, h194)
        )
      ) else (
      if ((xs i4.toNatClampNeg) &&& (nI 63)) = nI 19 then (
        G (gx (i4 + (nI 1)) Ls) <|
        G (xc h a1 = 11) <|
        BN (X11_found_f a1 (xs (i4 + (nI 1)).toNatClampNeg) h) fun v200 h199 =>
        G (gx (i4 + (nI 1)) Ls) <|
        G (xc h199 a2 = 15) <|
        BN (X15_found_f a2 (xs (i4 + (nI 1)).toNatClampNeg) h199) fun v204 h203 =>
        if v200 = v204 then (
          L_law_B1181 xs Ls (L_law_B23 xs Ls n) a1 a2 a3 i4 h203
        ) else (
          some (nI 0, h203)
        )
      ) else (
      if ((xs i4.toNatClampNeg) &&& (nI 63)) = nI 20 then (
        G (xc h a1 = 11) <|
        BN (X11_exact_f a1 h) fun v208 h207 =>
        G (xc h207 a2 = 15) <|
        BN (X15_exact_f a2 h207) fun v211 h210 =>
        if v208 = v211 then (
          L_law_B1181 xs Ls (L_law_B23 xs Ls n) a1 a2 a3 i4 h210
        ) else (
          some (nI 0, h210)
        )
      ) else (
      if ((xs i4.toNatClampNeg) &&& (nI 63)) = nI 21 then (
        G (gx (i4 + (nI 1)) Ls) <|
        G (xc h a1 = 11) <|
        BN (X11_exactly_f a1 (xs (i4 + (nI 1)).toNatClampNeg) h) fun v216 h215 =>
        G (gx (i4 + (nI 1)) Ls) <|
        G (xc h215 a2 = 15) <|
        BN (X15_exactly_f a2 (xs (i4 + (nI 1)).toNatClampNeg) h215) fun v220 h219 =>
        if v216 = v220 then (
          L_law_B1181 xs Ls (L_law_B23 xs Ls n) a1 a2 a3 i4 h219
        ) else (
          some (nI 0, h219)
        )
      ) else (
      if ((xs i4.toNatClampNeg) &&& (nI 63)) = nI 22 then (
        G (xc h a1 = 11) <|
        BN (X11_cut_f a1 h) fun v224 h223 =>
        G (xc h223 a2 = 15) <|
        BN (X15_cut_f a2 h223) fun v227 h226 =>
        if v224 = v227 then (
          L_law_B1181 xs Ls (L_law_B23 xs Ls n) a1 a2 a3 i4 h226
        ) else (
          some (nI 0, h226)
        )
      ) else (
      if ((xs i4.toNatClampNeg) &&& (nI 63)) = nI 23 then (
        G (gx (i4 + (nI 1)) Ls) <|
        G (xc h a1 = 11) <|
        BN (X11_told_f a1 (xs (i4 + (nI 1)).toNatClampNeg) h) fun v232 h231 =>
        G (gx (i4 + (nI 1)) Ls) <|
        G (xc h231 a2 = 15) <|
        BN (X15_told_f a2 (xs (i4 + (nI 1)).toNatClampNeg) h231) fun v236 h235 =>
        if v232 = v236 then (
          L_law_B1181 xs Ls (L_law_B23 xs Ls n) a1 a2 a3 i4 h235
        ) else (
          some (nI 0, h235)
        )
      ) else (
      if ((xs i4.toNatClampNeg) &&& (nI 63)) = nI 24 then (
        G (gx (i4 + (nI 1)) Ls) <|
        G (xc h a1 = 11) <|
        BN (X11_start_f a1 (xs (i4 + (nI 1)).toNatClampNeg) h) fun v241 h240 =>
        G (gx (i4 + (nI 1)) Ls) <|
        G (xc h240 a2 = 15) <|
        BN (X15_start_f a2 (xs (i4 + (nI 1)).toNatClampNeg) h240) fun v245 h244 =>
        if v241 = v245 then (
          L_law_B1181 xs Ls (L_law_B23 xs Ls n) a1 a2 a3 i4 h244
        ) else (
          some (nI 0, h244)
        )
      ) else (
      if ((xs i4.toNatClampNeg) &&& (nI 63)) = nI 25 then (
        G (xc h a1 = 11) <|
        BN (X11_thin_f a1 h) fun v249 h248 =>
        G (xc h248 a2 = 15) <|
        BN (X15_thin_f a2 h248) fun v252 h251 =>
        if v249 = v252 then (
          L_law_B1181 xs Ls (L_law_B23 xs Ls n) a1 a2 a3 i4 h251
        ) else (
          some (nI 0, h251)
        )
      ) else (
      if ((xs i4.toNatClampNeg) &&& (nI 63)) = nI 26 then (
        G (xc h a1 = 11) <|
        BN (X11_thinness_f a1 h) fun v256 h255 =>
        G (xc h255 a2 = 15) <|
        BN (X15_thinness_f a2 h255) fun v259 h258 =>
        if v256 = v259 then (
          L_law_B1181 xs Ls (L_law_B23 xs Ls n) a1 a2 a3 i4 h258
        ) else (
          some (nI 0, h258)
        )
      ) else (
      if ((xs i4.toNatClampNeg) &&& (nI 63)) = nI 27 then (
        G (gx (i4 + (nI 1)) Ls) <|
        BN (L_led_f a1 (xs (i4 + (nI 1)).toNatClampNeg) a3 h) fun v263 h262 =>
        G (gx (i4 + (nI 1)) Ls) <|
        G (xc h262 a2 = 15) <|
        BN (X15_led_f a2 (xs (i4 + (nI 1)).toNatClampNeg) h262) fun v267 h266 =>
        G (xc h266 a2 = 15) <|
        BN (X15_thrown_f a2 h266) fun v270 h269 =>
        if v270 = v263 then (
          if v263 = 0 then (
            G (xc h269 a3 = 17) <|
            G (gx (nI 0) (xz h269 a3)) <|
            if (lg_cmp (xL h269 a3 (nI 0).toNatClampNeg) (v267.toInt64)) = 0 then (
              L_law_B1027 xs Ls (L_law_B23 xs Ls n) a1 a2 a3 i4 h269
            ) else (
              some (nI 0, h269)
            )
          ) else (
            L_law_B1027 xs Ls (L_law_B23 xs Ls n) a1 a2 a3 i4 h269
          )
        ) else (
          some (nI 0, h269)
        )
      ) else (
      if ((xs i4.toNatClampNeg) &&& (nI 63)) = nI 28 then (
        G (gx (i4 + (nI 1)) Ls) <|
        G (gx (i4 + (nI 2)) Ls) <|
        G (xc h a1 = 11) <|
        BN (X11_mend_f a1 (xs (i4 + (nI 1)).toNatClampNeg) (xs (i4 + (nI 2)).toNatClampNeg) h) fun v278 h277 =>
        G (gx (i4 + (nI 1)) Ls) <|
        G (gx (i4 + (nI 2)) Ls) <|
        G (xc h277 a2 = 15) <|
        BN (X15_mend_f a2 (xs (i4 + (nI 1)).toNatClampNeg) (xs (i4 + (nI 2)).toNatClampNeg) h277) fun v283 h282 =>
        if v278 = v283 then (
          L_law_B1181 xs Ls (L_law_B23 xs Ls n) a1 a2 a3 i4 h282
        ) else (
          some (nI 0, h282)
        )
      ) else (
      if ((xs i4.toNatClampNeg) &&& (nI 63)) = nI 29 then (
        G (xc h a1 = 11) <|
        BN (X11_keep_f a1 h) fun v287 h286 =>
        G (xc h286 a2 = 15) <|
        BN (X15_keep_f a2 h286) fun v290 h289 =>
        if v287 = v290 then (
          L_law_B1181 xs Ls (L_law_B23 xs Ls n) a1 a2 a3 i4 h289
        ) else (
          some (nI 0, h289)
        )
      ) else (
      if ((xs i4.toNatClampNeg) &&& (nI 63)) = nI 30 then (
        G (gx (i4 + (nI 1)) Ls) <|
        G (xc h a1 = 11) <|
        BN (X11_fit_f a1 (xs (i4 + (nI 1)).toNatClampNeg) h) fun v295 h294 =>
        G (gx (i4 + (nI 1)) Ls) <|
        G (xc h294 a2 = 15) <|
        BN (X15_fit_f a2 (xs (i4 + (nI 1)).toNatClampNeg) h294) fun v299 h298 =>
        if v295 = v299 then (
          L_law_B1181 xs Ls (L_law_B23 xs Ls n) a1 a2 a3 i4 h298
        ) else (
          some (nI 0, h298)
        )
      ) else (
      if ((xs i4.toNatClampNeg) &&& (nI 63)) = nI 31 then (
        G (xc h a1 = 11) <|
        BN (X11_least_f a1 h) fun v303 h302 =>
        G (xc h302 a2 = 15) <|
        BN (X15_least_f a2 h302) fun v306 h305 =>
        if v303 = v306 then (
          L_law_B1181 xs Ls (L_law_B23 xs Ls n) a1 a2 a3 i4 h305
        ) else (
          some (nI 0, h305)
        )
      ) else (
      if ((xs i4.toNatClampNeg) &&& (nI 63)) = nI 32 then (
        G (gx (i4 + (nI 1)) Ls) <|
        G (xc h a1 = 11) <|
        BN (X11_make_f a1 (xs (i4 + (nI 1)).toNatClampNeg) h) fun v311 h310 =>
        G (gx (i4 + (nI 1)) Ls) <|
        G (xc h310 a2 = 15) <|
        BN (X15_make_f a2 (xs (i4 + (nI 1)).toNatClampNeg) h310) fun v315 h314 =>
        if v311 = v315 then (
          L_law_B1181 xs Ls (L_law_B23 xs Ls n) a1 a2 a3 i4 h314
        ) else (
          some (nI 0, h314)
        )
      ) else (
      if ((xs i4.toNatClampNeg) &&& (nI 63)) = nI 33 then (
        G (gx (i4 + (nI 1)) Ls) <|
        G (xc h a1 = 11) <|
        BN (X11_count_f a1 (xs (i4 + (nI 1)).toNatClampNeg) h) fun v320 h319 =>
        G (gx (i4 + (nI 1)) Ls) <|
        G (xc h319 a2 = 15) <|
        BN (X15_count_f a2 (xs (i4 + (nI 1)).toNatClampNeg) h319) fun v324 h323 =>
        if v320 = v324 then (
          L_law_B1181 xs Ls (L_law_B23 xs Ls n) a1 a2 a3 i4 h323
        ) else (
          some (nI 0, h323)
        )
      ) else (
      if ((xs i4.toNatClampNeg) &&& (nI 63)) = nI 34 then (
        G (xc h a1 = 11) <|
        BN (X11_trouble_f a1 h) fun v328 h327 =>
        G (xc h327 a2 = 15) <|
        BN (X15_trouble_f a2 h327) fun v331 h330 =>
        if v328 = v331 then (
          L_law_B1181 xs Ls (L_law_B23 xs Ls n) a1 a2 a3 i4 h330
        ) else (
          some (nI 0, h330)
        )
      ) else (
      L_law_B1181 xs Ls (L_law_B23 xs Ls n) a1 a2 a3 i4 h
      )))))))))))))))))))))))))))))))))))
    )
theorem jL_law_B23 (x : CT) (xs : Nat → Int32) (Ls : Nat) (hxs : xs = scx (wx x)) (hLs : Ls = scL (wx x)) : ∀ (n : Nat) (a1 : Nat) (a2 : Nat) (a3 : Nat) (i4 : Int32) (h : AH), J x qL_law Zlaw 23 [(0, scv (wx x)), (1, rv (zx x) a1), (2, rv (zx x) a2), (3, rv (zx x) a3), (4, .int i4)] [] h (L_law_B23 xs Ls n a1 a2 a3 i4 h) := by
  intro n
  induction n with
  | zero => intro a1 a2 a3 i4 h; exact J_none
  | succ n ih =>
    intro a1 a2 a3 i4 h
    unfold L_law_B23
    refine J_iload 4 dL_law_23 rfl ?_
    refine J_aload_n 0 dL_law_25 scv_is rfl ?_
    refine J_slen hLs dL_law_26 ?_
    refine J_bipush (v := nI 6) dL_law_27 rfl ?_
    refine J_isub dL_law_29 ?_
    refine J_icmp_gt (tgt := 1187) dL_law_30 rfl ?_ ?_
    · refine J_iconst (v := nI 1) dL_law_1187 rfl ?_
      exact J_lawret dL_law_1188
    · refine J_aload_n 0 dL_law_33 scv_is rfl ?_
      refine J_iload 4 dL_law_34 rfl ?_
      refine J_G (fun g1 => ?_)
      refine J_sld hxs hLs g1 dL_law_36 ?_
      refine J_bipush (v := nI 63) dL_law_37 rfl ?_
      refine J_iand dL_law_39 ?_
      refine J_tcase (c0 := nI 0) (tgt := 196) dL_law_40 (by decide) (by decide) rfl rfl ?_ (fun n18 => ?_)
      · refine J_aload_n 1 dL_law_196 rv_is rfl ?_
        refine J_aload_n 0 dL_law_197 scv_is rfl ?_
        refine J_iload 4 dL_law_198 rfl ?_
        refine J_iconst (v := nI 1) dL_law_200 rfl ?_
        refine J_iadd dL_law_201 ?_
        refine J_G (fun g2 => ?_)
        refine J_sld hxs hLs g2 dL_law_202 ?_
        refine J_aload_n 0 dL_law_203 scv_is rfl ?_
        refine J_iload 4 dL_law_204 rfl ?_
        refine J_iconst (v := nI 2) dL_law_206 rfl ?_
        refine J_iadd dL_law_207 ?_
        refine J_G (fun g3 => ?_)
        refine J_sld hxs hLs g3 dL_law_208 ?_
        refine J_aload_n 0 dL_law_209 scv_is rfl ?_
        refine J_iload 4 dL_law_210 rfl ?_
        refine J_iconst (v := nI 3) dL_law_212 rfl ?_
        refine J_iadd dL_law_213 ?_
        refine J_G (fun g4 => ?_)
        refine J_sld hxs hLs g4 dL_law_214 ?_
        refine J_aload_n 0 dL_law_215 scv_is rfl ?_
        refine J_iload 4 dL_law_216 rfl ?_
        refine J_iconst (v := nI 4) dL_law_218 rfl ?_
        refine J_iadd dL_law_219 ?_
        refine J_G (fun g5 => ?_)
        refine J_sld hxs hLs g5 dL_law_220 ?_
        refine J_aload_n 0 dL_law_221 scv_is rfl ?_
        refine J_iload 4 dL_law_222 rfl ?_
        refine J_iconst (v := nI 5) dL_law_224 rfl ?_
        refine J_iadd dL_law_225 ?_
        refine J_G (fun g6 => ?_)
        refine J_sld hxs hLs g6 dL_law_226 ?_
        refine J_G (fun g7 => ?_)
        refine J.callV (n := 5) (As := [.int (xs (i4 + (nI 1)).toNatClampNeg), .int (xs (i4 + (nI 2)).toNatClampNeg), .int (xs (i4 + (nI 3)).toNatClampNeg), .int (xs (i4 + (nI 4)).toNatClampNeg), .int (xs (i4 + (nI 5)).toNatClampNeg)]) kc_11 (ctX11_feed (lx x) (wx x) a1 (xs (i4 + (nI 1)).toNatClampNeg) (xs (i4 + (nI 2)).toNatClampNeg) (xs (i4 + (nI 3)).toNatClampNeg) (xs (i4 + (nI 4)).toNatClampNeg) (xs (i4 + (nI 5)).toNatClampNeg) h) kw_3_100 kw_3_97 kw_3_98 kw_3_99 kw_1_1 (by decide +kernel) rfl (by decide) (Nat.zero_le _) rfl dL_law_227 g7 (fun v9 h8 => ?_)
        show J x _ _ 230 _ [.int v9] h8 _
        refine J_aload_n 2 dL_law_230 rv_is rfl ?_
        refine J_aload_n 0 dL_law_231 scv_is rfl ?_
        refine J_iload 4 dL_law_232 rfl ?_
        refine J_iconst (v := nI 1) dL_law_234 rfl ?_
        refine J_iadd dL_law_235 ?_
        refine J_G (fun g10 => ?_)
        refine J_sld hxs hLs g10 dL_law_236 ?_
        refine J_aload_n 0 dL_law_237 scv_is rfl ?_
        refine J_iload 4 dL_law_238 rfl ?_
        refine J_iconst (v := nI 2) dL_law_240 rfl ?_
        refine J_iadd dL_law_241 ?_
        refine J_G (fun g11 => ?_)
        refine J_sld hxs hLs g11 dL_law_242 ?_
        refine J_aload_n 0 dL_law_243 scv_is rfl ?_
        refine J_iload 4 dL_law_244 rfl ?_
        refine J_iconst (v := nI 3) dL_law_246 rfl ?_
        refine J_iadd dL_law_247 ?_
        refine J_G (fun g12 => ?_)
        refine J_sld hxs hLs g12 dL_law_248 ?_
        refine J_aload_n 0 dL_law_249 scv_is rfl ?_
        refine J_iload 4 dL_law_250 rfl ?_
        refine J_iconst (v := nI 4) dL_law_252 rfl ?_
        refine J_iadd dL_law_253 ?_
        refine J_G (fun g13 => ?_)
        refine J_sld hxs hLs g13 dL_law_254 ?_
        refine J_aload_n 0 dL_law_255 scv_is rfl ?_
        refine J_iload 4 dL_law_256 rfl ?_
        refine J_iconst (v := nI 5) dL_law_258 rfl ?_
        refine J_iadd dL_law_259 ?_
        refine J_G (fun g14 => ?_)
        refine J_sld hxs hLs g14 dL_law_260 ?_
        refine J_G (fun g15 => ?_)
        refine J.callV (n := 5) (As := [.int (xs (i4 + (nI 1)).toNatClampNeg), .int (xs (i4 + (nI 2)).toNatClampNeg), .int (xs (i4 + (nI 3)).toNatClampNeg), .int (xs (i4 + (nI 4)).toNatClampNeg), .int (xs (i4 + (nI 5)).toNatClampNeg)]) kc_15 (ctX15_feed (lx x) (wx x) a2 (xs (i4 + (nI 1)).toNatClampNeg) (xs (i4 + (nI 2)).toNatClampNeg) (xs (i4 + (nI 3)).toNatClampNeg) (xs (i4 + (nI 4)).toNatClampNeg) (xs (i4 + (nI 5)).toNatClampNeg) h8) kw_7_131 kw_7_128 kw_7_129 kw_7_130 kw_1_13 (by decide +kernel) rfl (by decide) (by simp [rv_cat, cat_I, cat_L, cat_S]) rfl dL_law_261 g15 (fun v17 h16 => ?_)
        show J x _ _ 264 _ [.int v17, .int v9] h16 _
        refine J_icmp_eq (tgt := 1181) dL_law_264 rfl ?_ ?_
        · exact (jL_law_B1181 x xs Ls hxs hLs (L_law_B23 xs Ls n) ih a1 a2 a3 i4 h16)
        · refine J_iconst (v := nI 0) dL_law_267 rfl ?_
          exact J_lawret dL_law_268
      refine J_tcase (c0 := nI 1) (tgt := 269) dL_law_40 (by decide) (by decide) rfl rfl ?_ (fun n27 => ?_)
      · refine J_aload_n 1 dL_law_269 rv_is rfl ?_
        refine J_aload_n 0 dL_law_270 scv_is rfl ?_
        refine J_iload 4 dL_law_271 rfl ?_
        refine J_iconst (v := nI 1) dL_law_273 rfl ?_
        refine J_iadd dL_law_274 ?_
        refine J_G (fun g19 => ?_)
        refine J_sld hxs hLs g19 dL_law_275 ?_
        refine J_G (fun g20 => ?_)
        refine J.callV (n := 1) (As := [.int (xs (i4 + (nI 1)).toNatClampNeg)]) kc_11 (ctX11_book (lx x) (wx x) a1 (xs (i4 + (nI 1)).toNatClampNeg) h) kw_3_108 kw_3_105 kw_3_106 kw_3_107 kw_1_1 (by decide +kernel) rfl (by decide) (Nat.zero_le _) rfl dL_law_276 g20 (fun v22 h21 => ?_)
        show J x _ _ 279 _ [.int v22] h21 _
        refine J_aload_n 2 dL_law_279 rv_is rfl ?_
        refine J_aload_n 0 dL_law_280 scv_is rfl ?_
        refine J_iload 4 dL_law_281 rfl ?_
        refine J_iconst (v := nI 1) dL_law_283 rfl ?_
        refine J_iadd dL_law_284 ?_
        refine J_G (fun g23 => ?_)
        refine J_sld hxs hLs g23 dL_law_285 ?_
        refine J_G (fun g24 => ?_)
        refine J.callVW (n := 1) (As := [.int (xs (i4 + (nI 1)).toNatClampNeg)]) kc_15 (ctX15_book (lx x) (wx x) a2 (xs (i4 + (nI 1)).toNatClampNeg) h21) kw_7_135 kw_7_132 kw_7_133 kw_7_134 kw_1_13 (by decide +kernel) rfl (by decide) (by simp [rv_cat, cat_I, cat_L, cat_S, cat_C]) rfl dL_law_286 g24 (fun v26 h25 => ?_)
        show J x _ _ 289 _ [.int v26, .int v22] h25 _
        refine J_icmp_eq (tgt := 1181) dL_law_289 rfl ?_ ?_
        · exact (jL_law_B1181 x xs Ls hxs hLs (L_law_B23 xs Ls n) ih a1 a2 a3 i4 h25)
        · refine J_iconst (v := nI 0) dL_law_292 rfl ?_
          exact J_lawret dL_law_293
      refine J_tcase (c0 := nI 2) (tgt := 294) dL_law_40 (by decide) (by decide) rfl rfl ?_ (fun n34 => ?_)
      · refine J_aload_n 1 dL_law_294 rv_is rfl ?_
        refine J_G (fun g28 => ?_)
        refine J.callV (n := 0) (As := []) kc_11 (ctX11_fault (lx x) (wx x) a1 h) kw_4_69 kw_4_66 kw_4_67 kw_4_68 kw_1_1 (by decide +kernel) rfl (by decide) (Nat.zero_le _) rfl dL_law_295 g28 (fun v30 h29 => ?_)
        show J x _ _ 298 _ [.int v30] h29 _
        refine J_aload_n 2 dL_law_298 rv_is rfl ?_
        refine J_G (fun g31 => ?_)
        refine J.callV (n := 0) (As := []) kc_15 (ctX15_fault (lx x) (wx x) a2 h29) kw_8_107 kw_8_104 kw_8_105 kw_8_106 kw_1_13 (by decide +kernel) rfl (by decide) (by simp [rv_cat, cat_I, cat_L, cat_S]) rfl dL_law_299 g31 (fun v33 h32 => ?_)
        show J x _ _ 302 _ [.int v33, .int v30] h32 _
        refine J_icmp_eq (tgt := 1181) dL_law_302 rfl ?_ ?_
        · exact (jL_law_B1181 x xs Ls hxs hLs (L_law_B23 xs Ls n) ih a1 a2 a3 i4 h32)
        · refine J_iconst (v := nI 0) dL_law_305 rfl ?_
          exact J_lawret dL_law_306
      refine J_tcase (c0 := nI 3) (tgt := 307) dL_law_40 (by decide) (by decide) rfl rfl ?_ (fun n41 => ?_)
      · refine J_aload_n 1 dL_law_307 rv_is rfl ?_
        refine J_G (fun g35 => ?_)
        refine J.callV (n := 0) (As := []) kc_11 (ctX11_where (lx x) (wx x) a1 h) kw_4_73 kw_4_70 kw_4_71 kw_4_72 kw_1_1 (by decide +kernel) rfl (by decide) (Nat.zero_le _) rfl dL_law_308 g35 (fun v37 h36 => ?_)
        show J x _ _ 311 _ [.int v37] h36 _
        refine J_aload_n 2 dL_law_311 rv_is rfl ?_
        refine J_G (fun g38 => ?_)
        refine J.callV (n := 0) (As := []) kc_15 (ctX15_where (lx x) (wx x) a2 h36) kw_8_111 kw_8_108 kw_8_109 kw_8_110 kw_1_13 (by decide +kernel) rfl (by decide) (by simp [rv_cat, cat_I, cat_L, cat_S]) rfl dL_law_312 g38 (fun v40 h39 => ?_)
        show J x _ _ 315 _ [.int v40, .int v37] h39 _
        refine J_icmp_eq (tgt := 1181) dL_law_315 rfl ?_ ?_
        · exact (jL_law_B1181 x xs Ls hxs hLs (L_law_B23 xs Ls n) ih a1 a2 a3 i4 h39)
        · refine J_iconst (v := nI 0) dL_law_318 rfl ?_
          exact J_lawret dL_law_319
      refine J_tcase (c0 := nI 4) (tgt := 320) dL_law_40 (by decide) (by decide) rfl rfl ?_ (fun n50 => ?_)
      · refine J_aload_n 1 dL_law_320 rv_is rfl ?_
        refine J_aload_n 0 dL_law_321 scv_is rfl ?_
        refine J_iload 4 dL_law_322 rfl ?_
        refine J_iconst (v := nI 1) dL_law_324 rfl ?_
        refine J_iadd dL_law_325 ?_
        refine J_G (fun g42 => ?_)
        refine J_sld hxs hLs g42 dL_law_326 ?_
        refine J_G (fun g43 => ?_)
        refine J.callV (n := 1) (As := [.int (xs (i4 + (nI 1)).toNatClampNeg)]) kc_11 (ctX11_last (lx x) (wx x) a1 (xs (i4 + (nI 1)).toNatClampNeg) h) kw_4_77 kw_4_74 kw_4_75 kw_4_76 kw_1_1 (by decide +kernel) rfl (by decide) (Nat.zero_le _) rfl dL_law_327 g43 (fun v45 h44 => ?_)
        show J x _ _ 330 _ [.int v45] h44 _
        refine J_aload_n 2 dL_law_330 rv_is rfl ?_
        refine J_aload_n 0 dL_law_331 scv_is rfl ?_
        refine J_iload 4 dL_law_332 rfl ?_
        refine J_iconst (v := nI 1) dL_law_334 rfl ?_
        refine J_iadd dL_law_335 ?_
        refine J_G (fun g46 => ?_)
        refine J_sld hxs hLs g46 dL_law_336 ?_
        refine J_G (fun g47 => ?_)
        refine J.callV (n := 1) (As := [.int (xs (i4 + (nI 1)).toNatClampNeg)]) kc_15 (ctX15_last (lx x) (wx x) a2 (xs (i4 + (nI 1)).toNatClampNeg) h44) kw_8_115 kw_8_112 kw_8_113 kw_8_114 kw_1_13 (by decide +kernel) rfl (by decide) (by simp [rv_cat, cat_I, cat_L, cat_S]) rfl dL_law_337 g47 (fun v49 h48 => ?_)
        show J x _ _ 340 _ [.int v49, .int v45] h48 _
        refine J_icmp_eq (tgt := 1181) dL_law_340 rfl ?_ ?_
        · exact (jL_law_B1181 x xs Ls hxs hLs (L_law_B23 xs Ls n) ih a1 a2 a3 i4 h48)
        · refine J_iconst (v := nI 0) dL_law_343 rfl ?_
          exact J_lawret dL_law_344
      refine J_tcase (c0 := nI 5) (tgt := 345) dL_law_40 (by decide) (by decide) rfl rfl ?_ (fun n61 => ?_)
      · refine J_aload_n 1 dL_law_345 rv_is rfl ?_
        refine J_aload_n 0 dL_law_346 scv_is rfl ?_
        refine J_iload 4 dL_law_347 rfl ?_
        refine J_iconst (v := nI 1) dL_law_349 rfl ?_
        refine J_iadd dL_law_350 ?_
        refine J_G (fun g51 => ?_)
        refine J_sld hxs hLs g51 dL_law_351 ?_
        refine J_aload_n 0 dL_law_352 scv_is rfl ?_
        refine J_iload 4 dL_law_353 rfl ?_
        refine J_iconst (v := nI 2) dL_law_355 rfl ?_
        refine J_iadd dL_law_356 ?_
        refine J_G (fun g52 => ?_)
        refine J_sld hxs hLs g52 dL_law_357 ?_
        refine J_G (fun g53 => ?_)
        refine J.callV (n := 2) (As := [.int (xs (i4 + (nI 1)).toNatClampNeg), .int (xs (i4 + (nI 2)).toNatClampNeg)]) kc_11 (ctX11_purse (lx x) (wx x) a1 (xs (i4 + (nI 1)).toNatClampNeg) (xs (i4 + (nI 2)).toNatClampNeg) h) kw_4_81 kw_4_78 kw_4_79 kw_4_80 kw_1_1 (by decide +kernel) rfl (by decide) (Nat.zero_le _) rfl dL_law_358 g53 (fun v55 h54 => ?_)
        show J x _ _ 361 _ [.int v55] h54 _
        refine J_aload_n 2 dL_law_361 rv_is rfl ?_
        refine J_aload_n 0 dL_law_362 scv_is rfl ?_
        refine J_iload 4 dL_law_363 rfl ?_
        refine J_iconst (v := nI 1) dL_law_365 rfl ?_
        refine J_iadd dL_law_366 ?_
        refine J_G (fun g56 => ?_)
        refine J_sld hxs hLs g56 dL_law_367 ?_
        refine J_aload_n 0 dL_law_368 scv_is rfl ?_
        refine J_iload 4 dL_law_369 rfl ?_
        refine J_iconst (v := nI 2) dL_law_371 rfl ?_
        refine J_iadd dL_law_372 ?_
        refine J_G (fun g57 => ?_)
        refine J_sld hxs hLs g57 dL_law_373 ?_
        refine J_G (fun g58 => ?_)
        refine J.callV (n := 2) (As := [.int (xs (i4 + (nI 1)).toNatClampNeg), .int (xs (i4 + (nI 2)).toNatClampNeg)]) kc_15 (ctX15_purse (lx x) (wx x) a2 (xs (i4 + (nI 1)).toNatClampNeg) (xs (i4 + (nI 2)).toNatClampNeg) h54) kw_8_130 kw_8_127 kw_8_128 kw_8_129 kw_1_13 (by decide +kernel) rfl (by decide) (by simp [rv_cat, cat_I, cat_L, cat_S]) rfl dL_law_374 g58 (fun v60 h59 => ?_)
        show J x _ _ 377 _ [.int v60, .int v55] h59 _
        refine J_icmp_eq (tgt := 1181) dL_law_377 rfl ?_ ?_
        · exact (jL_law_B1181 x xs Ls hxs hLs (L_law_B23 xs Ls n) ih a1 a2 a3 i4 h59)
        · refine J_iconst (v := nI 0) dL_law_380 rfl ?_
          exact J_lawret dL_law_381
      refine J_tcase (c0 := nI 6) (tgt := 382) dL_law_40 (by decide) (by decide) rfl rfl ?_ (fun n74 => ?_)
      · refine J_aload_n 1 dL_law_382 rv_is rfl ?_
        refine J_aload_n 0 dL_law_383 scv_is rfl ?_
        refine J_iload 4 dL_law_384 rfl ?_
        refine J_iconst (v := nI 1) dL_law_386 rfl ?_
        refine J_iadd dL_law_387 ?_
        refine J_G (fun g62 => ?_)
        refine J_sld hxs hLs g62 dL_law_388 ?_
        refine J_aload_n 0 dL_law_389 scv_is rfl ?_
        refine J_iload 4 dL_law_390 rfl ?_
        refine J_iconst (v := nI 2) dL_law_392 rfl ?_
        refine J_iadd dL_law_393 ?_
        refine J_G (fun g63 => ?_)
        refine J_sld hxs hLs g63 dL_law_394 ?_
        refine J_aload_n 0 dL_law_395 scv_is rfl ?_
        refine J_iload 4 dL_law_396 rfl ?_
        refine J_iconst (v := nI 3) dL_law_398 rfl ?_
        refine J_iadd dL_law_399 ?_
        refine J_G (fun g64 => ?_)
        refine J_sld hxs hLs g64 dL_law_400 ?_
        refine J_G (fun g65 => ?_)
        refine J.callV (n := 3) (As := [.int (xs (i4 + (nI 1)).toNatClampNeg), .int (xs (i4 + (nI 2)).toNatClampNeg), .int (xs (i4 + (nI 3)).toNatClampNeg)]) kc_11 (ctX11_fall (lx x) (wx x) a1 (xs (i4 + (nI 1)).toNatClampNeg) (xs (i4 + (nI 2)).toNatClampNeg) (xs (i4 + (nI 3)).toNatClampNeg) h) kw_4_89 kw_4_86 kw_4_87 kw_4_88 kw_1_1 (by decide +kernel) rfl (by decide) (Nat.zero_le _) rfl dL_law_401 g65 (fun v67 h66 => ?_)
        show J x _ _ 404 _ [.int v67] h66 _
        refine J_aload_n 2 dL_law_404 rv_is rfl ?_
        refine J_aload_n 0 dL_law_405 scv_is rfl ?_
        refine J_iload 4 dL_law_406 rfl ?_
        refine J_iconst (v := nI 1) dL_law_408 rfl ?_
        refine J_iadd dL_law_409 ?_
        refine J_G (fun g68 => ?_)
        refine J_sld hxs hLs g68 dL_law_410 ?_
        refine J_aload_n 0 dL_law_411 scv_is rfl ?_
        refine J_iload 4 dL_law_412 rfl ?_
        refine J_iconst (v := nI 2) dL_law_414 rfl ?_
        refine J_iadd dL_law_415 ?_
        refine J_G (fun g69 => ?_)
        refine J_sld hxs hLs g69 dL_law_416 ?_
        refine J_aload_n 0 dL_law_417 scv_is rfl ?_
        refine J_iload 4 dL_law_418 rfl ?_
        refine J_iconst (v := nI 3) dL_law_420 rfl ?_
        refine J_iadd dL_law_421 ?_
        refine J_G (fun g70 => ?_)
        refine J_sld hxs hLs g70 dL_law_422 ?_
        refine J_G (fun g71 => ?_)
        refine J.callV (n := 3) (As := [.int (xs (i4 + (nI 1)).toNatClampNeg), .int (xs (i4 + (nI 2)).toNatClampNeg), .int (xs (i4 + (nI 3)).toNatClampNeg)]) kc_15 (ctX15_fall (lx x) (wx x) a2 (xs (i4 + (nI 1)).toNatClampNeg) (xs (i4 + (nI 2)).toNatClampNeg) (xs (i4 + (nI 3)).toNatClampNeg) h66) kw_8_138 kw_8_135 kw_8_136 kw_8_137 kw_1_13 (by decide +kernel) rfl (by decide) (by simp [rv_cat, cat_I, cat_L, cat_S]) rfl dL_law_423 g71 (fun v73 h72 => ?_)
        show J x _ _ 426 _ [.int v73, .int v67] h72 _
        refine J_icmp_eq (tgt := 1181) dL_law_426 rfl ?_ ?_
        · exact (jL_law_B1181 x xs Ls hxs hLs (L_law_B23 xs Ls n) ih a1 a2 a3 i4 h72)
        · refine J_iconst (v := nI 0) dL_law_429 rfl ?_
          exact J_lawret dL_law_430
      refine J_tcase (c0 := nI 7) (tgt := 431) dL_law_40 (by decide) (by decide) rfl rfl ?_ (fun n81 => ?_)
      · refine J_aload_n 1 dL_law_431 rv_is rfl ?_
        refine J_G (fun g75 => ?_)
        refine J.callV (n := 0) (As := []) kc_11 (ctX11_clear (lx x) (wx x) a1 h) kw_4_108 kw_4_105 kw_4_106 kw_4_107 kw_1_1 (by decide +kernel) rfl (by decide) (Nat.zero_le _) rfl dL_law_432 g75 (fun v77 h76 => ?_)
        show J x _ _ 435 _ [.int v77] h76 _
        refine J_aload_n 2 dL_law_435 rv_is rfl ?_
        refine J_G (fun g78 => ?_)
        refine J.callV (n := 0) (As := []) kc_15 (ctX15_clear (lx x) (wx x) a2 h76) kw_8_146 kw_8_143 kw_8_144 kw_8_145 kw_1_13 (by decide +kernel) rfl (by decide) (by simp [rv_cat, cat_I, cat_L, cat_S]) rfl dL_law_436 g78 (fun v80 h79 => ?_)
        show J x _ _ 439 _ [.int v80, .int v77] h79 _
        refine J_icmp_eq (tgt := 1181) dL_law_439 rfl ?_ ?_
        · exact (jL_law_B1181 x xs Ls hxs hLs (L_law_B23 xs Ls n) ih a1 a2 a3 i4 h79)
        · refine J_iconst (v := nI 0) dL_law_442 rfl ?_
          exact J_lawret dL_law_443
      refine J_tcase (c0 := nI 8) (tgt := 444) dL_law_40 (by decide) (by decide) rfl rfl ?_ (fun n88 => ?_)
      · refine J_aload_n 1 dL_law_444 rv_is rfl ?_
        refine J_G (fun g82 => ?_)
        refine J.callV (n := 0) (As := []) kc_11 (ctX11_run (lx x) (wx x) a1 h) kw_4_112 kw_4_109 kw_4_110 kw_4_111 kw_1_1 (by decide +kernel) rfl (by decide) (Nat.zero_le _) rfl dL_law_445 g82 (fun v84 h83 => ?_)
        show J x _ _ 448 _ [.int v84] h83 _
        refine J_aload_n 2 dL_law_448 rv_is rfl ?_
        refine J_G (fun g85 => ?_)
        refine J.callV (n := 0) (As := []) kc_15 (ctX15_run (lx x) (wx x) a2 h83) kw_8_150 kw_8_147 kw_8_148 kw_8_149 kw_1_13 (by decide +kernel) rfl (by decide) (by simp [rv_cat, cat_I, cat_L, cat_S]) rfl dL_law_449 g85 (fun v87 h86 => ?_)
        show J x _ _ 452 _ [.int v87, .int v84] h86 _
        refine J_icmp_eq (tgt := 1181) dL_law_452 rfl ?_ ?_
        · exact (jL_law_B1181 x xs Ls hxs hLs (L_law_B23 xs Ls n) ih a1 a2 a3 i4 h86)
        · refine J_iconst (v := nI 0) dL_law_455 rfl ?_
          exact J_lawret dL_law_456
      refine J_tcase (c0 := nI 9) (tgt := 457) dL_law_40 (by decide) (by decide) rfl rfl ?_ (fun n101 => ?_)
      · refine J_aload_n 1 dL_law_457 rv_is rfl ?_
        refine J_aload_n 0 dL_law_458 scv_is rfl ?_
        refine J_iload 4 dL_law_459 rfl ?_
        refine J_iconst (v := nI 1) dL_law_461 rfl ?_
        refine J_iadd dL_law_462 ?_
        refine J_G (fun g89 => ?_)
        refine J_sld hxs hLs g89 dL_law_463 ?_
        refine J_aload_n 0 dL_law_464 scv_is rfl ?_
        refine J_iload 4 dL_law_465 rfl ?_
        refine J_iconst (v := nI 2) dL_law_467 rfl ?_
        refine J_iadd dL_law_468 ?_
        refine J_G (fun g90 => ?_)
        refine J_sld hxs hLs g90 dL_law_469 ?_
        refine J_aload_n 0 dL_law_470 scv_is rfl ?_
        refine J_iload 4 dL_law_471 rfl ?_
        refine J_iconst (v := nI 3) dL_law_473 rfl ?_
        refine J_iadd dL_law_474 ?_
        refine J_G (fun g91 => ?_)
        refine J_sld hxs hLs g91 dL_law_475 ?_
        refine J_G (fun g92 => ?_)
        refine J.callV (n := 3) (As := [.int (xs (i4 + (nI 1)).toNatClampNeg), .int (xs (i4 + (nI 2)).toNatClampNeg), .int (xs (i4 + (nI 3)).toNatClampNeg)]) kc_11 (ctX11_there (lx x) (wx x) a1 (xs (i4 + (nI 1)).toNatClampNeg) (xs (i4 + (nI 2)).toNatClampNeg) (xs (i4 + (nI 3)).toNatClampNeg) h) kw_4_215 kw_4_212 kw_4_213 kw_4_214 kw_1_1 (by decide +kernel) rfl (by decide) (Nat.zero_le _) rfl dL_law_476 g92 (fun v94 h93 => ?_)
        show J x _ _ 479 _ [.int v94] h93 _
        refine J_aload_n 2 dL_law_479 rv_is rfl ?_
        refine J_aload_n 0 dL_law_480 scv_is rfl ?_
        refine J_iload 4 dL_law_481 rfl ?_
        refine J_iconst (v := nI 1) dL_law_483 rfl ?_
        refine J_iadd dL_law_484 ?_
        refine J_G (fun g95 => ?_)
        refine J_sld hxs hLs g95 dL_law_485 ?_
        refine J_aload_n 0 dL_law_486 scv_is rfl ?_
        refine J_iload 4 dL_law_487 rfl ?_
        refine J_iconst (v := nI 2) dL_law_489 rfl ?_
        refine J_iadd dL_law_490 ?_
        refine J_G (fun g96 => ?_)
        refine J_sld hxs hLs g96 dL_law_491 ?_
        refine J_aload_n 0 dL_law_492 scv_is rfl ?_
        refine J_iload 4 dL_law_493 rfl ?_
        refine J_iconst (v := nI 3) dL_law_495 rfl ?_
        refine J_iadd dL_law_496 ?_
        refine J_G (fun g97 => ?_)
        refine J_sld hxs hLs g97 dL_law_497 ?_
        refine J_G (fun g98 => ?_)
        refine J.callV (n := 3) (As := [.int (xs (i4 + (nI 1)).toNatClampNeg), .int (xs (i4 + (nI 2)).toNatClampNeg), .int (xs (i4 + (nI 3)).toNatClampNeg)]) kc_15 (ctX15_there (lx x) (wx x) a2 (xs (i4 + (nI 1)).toNatClampNeg) (xs (i4 + (nI 2)).toNatClampNeg) (xs (i4 + (nI 3)).toNatClampNeg) h93) kw_8_217 kw_8_214 kw_8_215 kw_8_216 kw_1_13 (by decide +kernel) rfl (by decide) (by simp [rv_cat, cat_I, cat_L, cat_S]) rfl dL_law_498 g98 (fun v100 h99 => ?_)
        show J x _ _ 501 _ [.int v100, .int v94] h99 _
        refine J_icmp_eq (tgt := 1181) dL_law_501 rfl ?_ ?_
        · exact (jL_law_B1181 x xs Ls hxs hLs (L_law_B23 xs Ls n) ih a1 a2 a3 i4 h99)
        · refine J_iconst (v := nI 0) dL_law_504 rfl ?_
          exact J_lawret dL_law_505
      refine J_tcase (c0 := nI 10) (tgt := 506) dL_law_40 (by decide) (by decide) rfl rfl ?_ (fun n114 => ?_)
      · refine J_aload_n 1 dL_law_506 rv_is rfl ?_
        refine J_aload_n 0 dL_law_507 scv_is rfl ?_
        refine J_iload 4 dL_law_508 rfl ?_
        refine J_iconst (v := nI 1) dL_law_510 rfl ?_
        refine J_iadd dL_law_511 ?_
        refine J_G (fun g102 => ?_)
        refine J_sld hxs hLs g102 dL_law_512 ?_
        refine J_aload_n 0 dL_law_513 scv_is rfl ?_
        refine J_iload 4 dL_law_514 rfl ?_
        refine J_iconst (v := nI 2) dL_law_516 rfl ?_
        refine J_iadd dL_law_517 ?_
        refine J_G (fun g103 => ?_)
        refine J_sld hxs hLs g103 dL_law_518 ?_
        refine J_aload_n 0 dL_law_519 scv_is rfl ?_
        refine J_iload 4 dL_law_520 rfl ?_
        refine J_iconst (v := nI 3) dL_law_522 rfl ?_
        refine J_iadd dL_law_523 ?_
        refine J_G (fun g104 => ?_)
        refine J_sld hxs hLs g104 dL_law_524 ?_
        refine J_G (fun g105 => ?_)
        refine J.callV (n := 3) (As := [.int (xs (i4 + (nI 1)).toNatClampNeg), .int (xs (i4 + (nI 2)).toNatClampNeg), .int (xs (i4 + (nI 3)).toNatClampNeg)]) kc_11 (ctX11_reasons (lx x) (wx x) a1 (xs (i4 + (nI 1)).toNatClampNeg) (xs (i4 + (nI 2)).toNatClampNeg) (xs (i4 + (nI 3)).toNatClampNeg) h) kw_4_227 kw_4_224 kw_4_225 kw_4_226 kw_1_1 (by decide +kernel) rfl (by decide) (Nat.zero_le _) rfl dL_law_525 g105 (fun v107 h106 => ?_)
        show J x _ _ 528 _ [.int v107] h106 _
        refine J_aload_n 2 dL_law_528 rv_is rfl ?_
        refine J_aload_n 0 dL_law_529 scv_is rfl ?_
        refine J_iload 4 dL_law_530 rfl ?_
        refine J_iconst (v := nI 1) dL_law_532 rfl ?_
        refine J_iadd dL_law_533 ?_
        refine J_G (fun g108 => ?_)
        refine J_sld hxs hLs g108 dL_law_534 ?_
        refine J_aload_n 0 dL_law_535 scv_is rfl ?_
        refine J_iload 4 dL_law_536 rfl ?_
        refine J_iconst (v := nI 2) dL_law_538 rfl ?_
        refine J_iadd dL_law_539 ?_
        refine J_G (fun g109 => ?_)
        refine J_sld hxs hLs g109 dL_law_540 ?_
        refine J_aload_n 0 dL_law_541 scv_is rfl ?_
        refine J_iload 4 dL_law_542 rfl ?_
        refine J_iconst (v := nI 3) dL_law_544 rfl ?_
        refine J_iadd dL_law_545 ?_
        refine J_G (fun g110 => ?_)
        refine J_sld hxs hLs g110 dL_law_546 ?_
        refine J_G (fun g111 => ?_)
        refine J.callV (n := 3) (As := [.int (xs (i4 + (nI 1)).toNatClampNeg), .int (xs (i4 + (nI 2)).toNatClampNeg), .int (xs (i4 + (nI 3)).toNatClampNeg)]) kc_15 (ctX15_reasons (lx x) (wx x) a2 (xs (i4 + (nI 1)).toNatClampNeg) (xs (i4 + (nI 2)).toNatClampNeg) (xs (i4 + (nI 3)).toNatClampNeg) h106) kw_8_229 kw_8_226 kw_8_227 kw_8_228 kw_1_13 (by decide +kernel) rfl (by decide) (by simp [rv_cat, cat_I, cat_L, cat_S]) rfl dL_law_547 g111 (fun v113 h112 => ?_)
        show J x _ _ 550 _ [.int v113, .int v107] h112 _
        refine J_icmp_eq (tgt := 1181) dL_law_550 rfl ?_ ?_
        · exact (jL_law_B1181 x xs Ls hxs hLs (L_law_B23 xs Ls n) ih a1 a2 a3 i4 h112)
        · refine J_iconst (v := nI 0) dL_law_553 rfl ?_
          exact J_lawret dL_law_554
      refine J_tcase (c0 := nI 11) (tgt := 555) dL_law_40 (by decide) (by decide) rfl rfl ?_ (fun n133 => ?_)
      · refine J_aload_n 1 dL_law_555 rv_is rfl ?_
        refine J_aload_n 0 dL_law_556 scv_is rfl ?_
        refine J_iload 4 dL_law_557 rfl ?_
        refine J_iconst (v := nI 1) dL_law_559 rfl ?_
        refine J_iadd dL_law_560 ?_
        refine J_G (fun g115 => ?_)
        refine J_sld hxs hLs g115 dL_law_561 ?_
        refine J_aload_n 0 dL_law_562 scv_is rfl ?_
        refine J_iload 4 dL_law_563 rfl ?_
        refine J_iconst (v := nI 2) dL_law_565 rfl ?_
        refine J_iadd dL_law_566 ?_
        refine J_G (fun g116 => ?_)
        refine J_sld hxs hLs g116 dL_law_567 ?_
        refine J_aload_n 0 dL_law_568 scv_is rfl ?_
        refine J_iload 4 dL_law_569 rfl ?_
        refine J_iconst (v := nI 3) dL_law_571 rfl ?_
        refine J_iadd dL_law_572 ?_
        refine J_G (fun g117 => ?_)
        refine J_sld hxs hLs g117 dL_law_573 ?_
        refine J_aload_n 0 dL_law_574 scv_is rfl ?_
        refine J_iload 4 dL_law_575 rfl ?_
        refine J_iconst (v := nI 4) dL_law_577 rfl ?_
        refine J_iadd dL_law_578 ?_
        refine J_G (fun g118 => ?_)
        refine J_sld hxs hLs g118 dL_law_579 ?_
        refine J_aload_n 3 dL_law_580 rv_is rfl ?_
        refine J.callSW (n := 6) (As := [rv (zx x) a1, .int (xs (i4 + (nI 1)).toNatClampNeg), .int (xs (i4 + (nI 2)).toNatClampNeg), .int (xs (i4 + (nI 3)).toNatClampNeg), .int (xs (i4 + (nI 4)).toNatClampNeg), rv (zx x) a3]) (ctL_reason (lx x) (wx x) a1 (xs (i4 + (nI 1)).toNatClampNeg) (xs (i4 + (nI 2)).toNatClampNeg) (xs (i4 + (nI 3)).toNatClampNeg) (xs (i4 + (nI 4)).toNatClampNeg) a3 h) kw_6_59 kw_6_57 kw_6_58 kw_1_0 (by decide +kernel) rfl (by decide) (Nat.zero_le _) rfl dL_law_581 (fun v120 h119 => ?_)
        show J x _ _ 584 _ [.int v120] h119 _
        refine J_istore dL_law_584 (by decide) (SD.a (lvr := [(0, scv (wx x)), (1, rv (zx x) a1), (2, rv (zx x) a2), (3, rv (zx x) a3), (4, .int i4)]) [0, 1, 2, 3, 4] rfl rfl) ?_
        refine J_aload_n 3 dL_law_586 rv_is rfl ?_
        refine J_aload_n 1 dL_law_587 scv_is rfl ?_
        refine J_iload 5 dL_law_588 rfl ?_
        refine J_iconst (v := nI 1) dL_law_590 rfl ?_
        refine J_iadd dL_law_591 ?_
        refine J_G (fun g121 => ?_)
        refine J_sld hxs hLs g121 dL_law_592 ?_
        refine J_aload_n 1 dL_law_593 scv_is rfl ?_
        refine J_iload 5 dL_law_594 rfl ?_
        refine J_iconst (v := nI 2) dL_law_596 rfl ?_
        refine J_iadd dL_law_597 ?_
        refine J_G (fun g122 => ?_)
        refine J_sld hxs hLs g122 dL_law_598 ?_
        refine J_aload_n 1 dL_law_599 scv_is rfl ?_
        refine J_iload 5 dL_law_600 rfl ?_
        refine J_iconst (v := nI 3) dL_law_602 rfl ?_
        refine J_iadd dL_law_603 ?_
        refine J_G (fun g123 => ?_)
        refine J_sld hxs hLs g123 dL_law_604 ?_
        refine J_aload_n 1 dL_law_605 scv_is rfl ?_
        refine J_iload 5 dL_law_606 rfl ?_
        refine J_iconst (v := nI 4) dL_law_608 rfl ?_
        refine J_iadd dL_law_609 ?_
        refine J_G (fun g124 => ?_)
        refine J_sld hxs hLs g124 dL_law_610 ?_
        refine J_G (fun g125 => ?_)
        refine J.callV (n := 4) (As := [.int (xs (i4 + (nI 1)).toNatClampNeg), .int (xs (i4 + (nI 2)).toNatClampNeg), .int (xs (i4 + (nI 3)).toNatClampNeg), .int (xs (i4 + (nI 4)).toNatClampNeg)]) kc_15 (ctX15_reason (lx x) (wx x) a2 (xs (i4 + (nI 1)).toNatClampNeg) (xs (i4 + (nI 2)).toNatClampNeg) (xs (i4 + (nI 3)).toNatClampNeg) (xs (i4 + (nI 4)).toNatClampNeg) h119) kw_9_1 kw_8_238 kw_8_239 kw_9_0 kw_1_13 (by decide +kernel) rfl (by decide) (Nat.zero_le _) rfl dL_law_611 g125 (fun v127 h126 => ?_)
        show J x _ _ 614 _ [.int v127] h126 _
        refine J_istore dL_law_614 (by decide) (SD.a (lvr := [(5, .int v120), (0, scv (wx x)), (1, rv (zx x) a1), (2, rv (zx x) a2), (3, rv (zx x) a3), (4, .int i4)]) [0, 1, 2, 3, 4, 5] rfl rfl) ?_
        refine J_aload_n 4 dL_law_616 rv_is rfl ?_
        refine J_G (fun g128 => ?_)
        refine J.callV (n := 0) (As := []) kc_15 (ctX15_thrown (lx x) (wx x) a2 h126) kw_7_127 kw_7_124 kw_7_125 kw_7_126 kw_1_13 (by decide +kernel) rfl (by decide) (Nat.zero_le _) rfl dL_law_617 g128 (fun v130 h129 => ?_)
        show J x _ _ 620 _ [.int v130] h129 _
        refine J_iload 1 dL_law_620 rfl ?_
        refine J_icmp_eq (tgt := 627) dL_law_622 rfl ?_ ?_
        · refine J_iload 1 dL_law_627 rfl ?_
          refine J_if_ne (tgt := 644) dL_law_629 rfl ?_ ?_
          · exact J_sub [2, 3, 4, 5, 6] rfl (jL_law_B644 x xs Ls hxs hLs (L_law_B23 xs Ls n) ih a1 a2 a3 i4 h129)
          · refine J_aload_n 5 dL_law_632 rv_is rfl ?_
            refine J_iconst (v := nI 0) dL_law_633 rfl ?_
            refine J_G (fun g131 => ?_)
            refine J_G (fun g132 => ?_)
            refine J_lald dL_law_634 g131 g132 ?_
            refine J_iload 0 dL_law_635 rfl ?_
            refine J_i2l dL_law_637 ?_
            refine J_lcmp dL_law_638 ?_
            refine J_if_eq (tgt := 644) dL_law_639 rfl ?_ ?_
            · exact J_sub [2, 3, 4, 5, 6] rfl (jL_law_B644 x xs Ls hxs hLs (L_law_B23 xs Ls n) ih a1 a2 a3 i4 h129)
            · refine J_iconst (v := nI 0) dL_law_642 rfl ?_
              exact J_lawret dL_law_643
        · refine J_iconst (v := nI 0) dL_law_625 rfl ?_
          exact J_lawret dL_law_626
      refine J_tcase (c0 := nI 12) (tgt := 647) dL_law_40 (by decide) (by decide) rfl rfl ?_ (fun n144 => ?_)
      · refine J_aload_n 1 dL_law_647 rv_is rfl ?_
        refine J_aload_n 0 dL_law_648 scv_is rfl ?_
        refine J_iload 4 dL_law_649 rfl ?_
        refine J_iconst (v := nI 1) dL_law_651 rfl ?_
        refine J_iadd dL_law_652 ?_
        refine J_G (fun g134 => ?_)
        refine J_sld hxs hLs g134 dL_law_653 ?_
        refine J_aload_n 0 dL_law_654 scv_is rfl ?_
        refine J_iload 4 dL_law_655 rfl ?_
        refine J_iconst (v := nI 2) dL_law_657 rfl ?_
        refine J_iadd dL_law_658 ?_
        refine J_G (fun g135 => ?_)
        refine J_sld hxs hLs g135 dL_law_659 ?_
        refine J_G (fun g136 => ?_)
        refine J.callV (n := 2) (As := [.int (xs (i4 + (nI 1)).toNatClampNeg), .int (xs (i4 + (nI 2)).toNatClampNeg)]) kc_11 (ctX11_word (lx x) (wx x) a1 (xs (i4 + (nI 1)).toNatClampNeg) (xs (i4 + (nI 2)).toNatClampNeg) h) kw_5_22 kw_5_19 kw_5_20 kw_5_21 kw_1_1 (by decide +kernel) rfl (by decide) (Nat.zero_le _) rfl dL_law_660 g136 (fun v138 h137 => ?_)
        show J x _ _ 663 _ [.int v138] h137 _
        refine J_aload_n 2 dL_law_663 rv_is rfl ?_
        refine J_aload_n 0 dL_law_664 scv_is rfl ?_
        refine J_iload 4 dL_law_665 rfl ?_
        refine J_iconst (v := nI 1) dL_law_667 rfl ?_
        refine J_iadd dL_law_668 ?_
        refine J_G (fun g139 => ?_)
        refine J_sld hxs hLs g139 dL_law_669 ?_
        refine J_aload_n 0 dL_law_670 scv_is rfl ?_
        refine J_iload 4 dL_law_671 rfl ?_
        refine J_iconst (v := nI 2) dL_law_673 rfl ?_
        refine J_iadd dL_law_674 ?_
        refine J_G (fun g140 => ?_)
        refine J_sld hxs hLs g140 dL_law_675 ?_
        refine J_G (fun g141 => ?_)
        refine J.callV (n := 2) (As := [.int (xs (i4 + (nI 1)).toNatClampNeg), .int (xs (i4 + (nI 2)).toNatClampNeg)]) kc_15 (ctX15_word (lx x) (wx x) a2 (xs (i4 + (nI 1)).toNatClampNeg) (xs (i4 + (nI 2)).toNatClampNeg) h137) kw_9_5 kw_9_2 kw_9_3 kw_9_4 kw_1_13 (by decide +kernel) rfl (by decide) (by simp [rv_cat, cat_I, cat_L, cat_S]) rfl dL_law_676 g141 (fun v143 h142 => ?_)
        show J x _ _ 679 _ [.int v143, .int v138] h142 _
        refine J_icmp_eq (tgt := 1181) dL_law_679 rfl ?_ ?_
        · exact (jL_law_B1181 x xs Ls hxs hLs (L_law_B23 xs Ls n) ih a1 a2 a3 i4 h142)
        · refine J_iconst (v := nI 0) dL_law_682 rfl ?_
          exact J_lawret dL_law_683
      refine J_tcase (c0 := nI 13) (tgt := 684) dL_law_40 (by decide) (by decide) rfl rfl ?_ (fun n153 => ?_)
      · refine J_aload_n 1 dL_law_684 rv_is rfl ?_
        refine J_aload_n 0 dL_law_685 scv_is rfl ?_
        refine J_iload 4 dL_law_686 rfl ?_
        refine J_iconst (v := nI 1) dL_law_688 rfl ?_
        refine J_iadd dL_law_689 ?_
        refine J_G (fun g145 => ?_)
        refine J_sld hxs hLs g145 dL_law_690 ?_
        refine J_G (fun g146 => ?_)
        refine J.callV (n := 1) (As := [.int (xs (i4 + (nI 1)).toNatClampNeg)]) kc_11 (ctX11_differs (lx x) (wx x) a1 (xs (i4 + (nI 1)).toNatClampNeg) h) kw_5_26 kw_5_23 kw_5_24 kw_5_25 kw_1_1 (by decide +kernel) rfl (by decide) (Nat.zero_le _) rfl dL_law_691 g146 (fun v148 h147 => ?_)
        show J x _ _ 694 _ [.int v148] h147 _
        refine J_aload_n 2 dL_law_694 rv_is rfl ?_
        refine J_aload_n 0 dL_law_695 scv_is rfl ?_
        refine J_iload 4 dL_law_696 rfl ?_
        refine J_iconst (v := nI 1) dL_law_698 rfl ?_
        refine J_iadd dL_law_699 ?_
        refine J_G (fun g149 => ?_)
        refine J_sld hxs hLs g149 dL_law_700 ?_
        refine J_G (fun g150 => ?_)
        refine J.callV (n := 1) (As := [.int (xs (i4 + (nI 1)).toNatClampNeg)]) kc_15 (ctX15_differs (lx x) (wx x) a2 (xs (i4 + (nI 1)).toNatClampNeg) h147) kw_9_13 kw_9_10 kw_9_11 kw_9_12 kw_1_13 (by decide +kernel) rfl (by decide) (by simp [rv_cat, cat_I, cat_L, cat_S]) rfl dL_law_701 g150 (fun v152 h151 => ?_)
        show J x _ _ 704 _ [.int v152, .int v148] h151 _
        refine J_icmp_eq (tgt := 1181) dL_law_704 rfl ?_ ?_
        · exact (jL_law_B1181 x xs Ls hxs hLs (L_law_B23 xs Ls n) ih a1 a2 a3 i4 h151)
        · refine J_iconst (v := nI 0) dL_law_707 rfl ?_
          exact J_lawret dL_law_708
      refine J_tcase (c0 := nI 14) (tgt := 709) dL_law_40 (by decide) (by decide) rfl rfl ?_ (fun n160 => ?_)
      · refine J_aload_n 1 dL_law_709 rv_is rfl ?_
        refine J_G (fun g154 => ?_)
        refine J.callV (n := 0) (As := []) kc_11 (ctX11_spoils (lx x) (wx x) a1 h) kw_5_38 kw_5_35 kw_5_36 kw_5_37 kw_1_1 (by decide +kernel) rfl (by decide) (Nat.zero_le _) rfl dL_law_710 g154 (fun v156 h155 => ?_)
        show J x _ _ 713 _ [.int v156] h155 _
        refine J_aload_n 2 dL_law_713 rv_is rfl ?_
        refine J_G (fun g157 => ?_)
        refine J.callV (n := 0) (As := []) kc_15 (ctX15_spoils (lx x) (wx x) a2 h155) kw_9_17 kw_9_14 kw_9_15 kw_9_16 kw_1_13 (by decide +kernel) rfl (by decide) (by simp [rv_cat, cat_I, cat_L, cat_S]) rfl dL_law_714 g157 (fun v159 h158 => ?_)
        show J x _ _ 717 _ [.int v159, .int v156] h158 _
        refine J_icmp_eq (tgt := 1181) dL_law_717 rfl ?_ ?_
        · exact (jL_law_B1181 x xs Ls hxs hLs (L_law_B23 xs Ls n) ih a1 a2 a3 i4 h158)
        · refine J_iconst (v := nI 0) dL_law_720 rfl ?_
          exact J_lawret dL_law_721
      refine J_tcase (c0 := nI 15) (tgt := 722) dL_law_40 (by decide) (by decide) rfl rfl ?_ (fun n173 => ?_)
      · refine J_aload_n 1 dL_law_722 rv_is rfl ?_
        refine J_aload_n 0 dL_law_723 scv_is rfl ?_
        refine J_iload 4 dL_law_724 rfl ?_
        refine J_iconst (v := nI 1) dL_law_726 rfl ?_
        refine J_iadd dL_law_727 ?_
        refine J_G (fun g161 => ?_)
        refine J_sld hxs hLs g161 dL_law_728 ?_
        refine J_aload_n 0 dL_law_729 scv_is rfl ?_
        refine J_iload 4 dL_law_730 rfl ?_
        refine J_iconst (v := nI 2) dL_law_732 rfl ?_
        refine J_iadd dL_law_733 ?_
        refine J_G (fun g162 => ?_)
        refine J_sld hxs hLs g162 dL_law_734 ?_
        refine J_aload_n 0 dL_law_735 scv_is rfl ?_
        refine J_iload 4 dL_law_736 rfl ?_
        refine J_iconst (v := nI 3) dL_law_738 rfl ?_
        refine J_iadd dL_law_739 ?_
        refine J_G (fun g163 => ?_)
        refine J_sld hxs hLs g163 dL_law_740 ?_
        refine J_G (fun g164 => ?_)
        refine J.callV (n := 3) (As := [.int (xs (i4 + (nI 1)).toNatClampNeg), .int (xs (i4 + (nI 2)).toNatClampNeg), .int (xs (i4 + (nI 3)).toNatClampNeg)]) kc_11 (ctX11_stands (lx x) (wx x) a1 (xs (i4 + (nI 1)).toNatClampNeg) (xs (i4 + (nI 2)).toNatClampNeg) (xs (i4 + (nI 3)).toNatClampNeg) h) kw_5_93 kw_5_90 kw_5_91 kw_5_92 kw_1_1 (by decide +kernel) rfl (by decide) (Nat.zero_le _) rfl dL_law_741 g164 (fun v166 h165 => ?_)
        show J x _ _ 744 _ [.int v166] h165 _
        refine J_aload_n 2 dL_law_744 rv_is rfl ?_
        refine J_aload_n 0 dL_law_745 scv_is rfl ?_
        refine J_iload 4 dL_law_746 rfl ?_
        refine J_iconst (v := nI 1) dL_law_748 rfl ?_
        refine J_iadd dL_law_749 ?_
        refine J_G (fun g167 => ?_)
        refine J_sld hxs hLs g167 dL_law_750 ?_
        refine J_aload_n 0 dL_law_751 scv_is rfl ?_
        refine J_iload 4 dL_law_752 rfl ?_
        refine J_iconst (v := nI 2) dL_law_754 rfl ?_
        refine J_iadd dL_law_755 ?_
        refine J_G (fun g168 => ?_)
        refine J_sld hxs hLs g168 dL_law_756 ?_
        refine J_aload_n 0 dL_law_757 scv_is rfl ?_
        refine J_iload 4 dL_law_758 rfl ?_
        refine J_iconst (v := nI 3) dL_law_760 rfl ?_
        refine J_iadd dL_law_761 ?_
        refine J_G (fun g169 => ?_)
        refine J_sld hxs hLs g169 dL_law_762 ?_
        refine J_G (fun g170 => ?_)
        refine J.callV (n := 3) (As := [.int (xs (i4 + (nI 1)).toNatClampNeg), .int (xs (i4 + (nI 2)).toNatClampNeg), .int (xs (i4 + (nI 3)).toNatClampNeg)]) kc_15 (ctX15_stands (lx x) (wx x) a2 (xs (i4 + (nI 1)).toNatClampNeg) (xs (i4 + (nI 2)).toNatClampNeg) (xs (i4 + (nI 3)).toNatClampNeg) h165) kw_9_41 kw_9_38 kw_9_39 kw_9_40 kw_1_13 (by decide +kernel) rfl (by decide) (by simp [rv_cat, cat_I, cat_L, cat_S]) rfl dL_law_763 g170 (fun v172 h171 => ?_)
        show J x _ _ 766 _ [.int v172, .int v166] h171 _
        refine J_icmp_eq (tgt := 1181) dL_law_766 rfl ?_ ?_
        · exact (jL_law_B1181 x xs Ls hxs hLs (L_law_B23 xs Ls n) ih a1 a2 a3 i4 h171)
        · refine J_iconst (v := nI 0) dL_law_769 rfl ?_
          exact J_lawret dL_law_770
      refine J_tcase (c0 := nI 16) (tgt := 771) dL_law_40 (by decide) (by decide) rfl rfl ?_ (fun n182 => ?_)
      · refine J_aload_n 1 dL_law_771 rv_is rfl ?_
        refine J_aload_n 0 dL_law_772 scv_is rfl ?_
        refine J_iload 4 dL_law_773 rfl ?_
        refine J_iconst (v := nI 1) dL_law_775 rfl ?_
        refine J_iadd dL_law_776 ?_
        refine J_G (fun g174 => ?_)
        refine J_sld hxs hLs g174 dL_law_777 ?_
        refine J_G (fun g175 => ?_)
        refine J.callV (n := 1) (As := [.int (xs (i4 + (nI 1)).toNatClampNeg)]) kc_11 (ctX11_trial (lx x) (wx x) a1 (xs (i4 + (nI 1)).toNatClampNeg) h) kw_5_97 kw_5_94 kw_5_95 kw_5_96 kw_1_1 (by decide +kernel) rfl (by decide) (Nat.zero_le _) rfl dL_law_778 g175 (fun v177 h176 => ?_)
        show J x _ _ 781 _ [.int v177] h176 _
        refine J_aload_n 2 dL_law_781 rv_is rfl ?_
        refine J_aload_n 0 dL_law_782 scv_is rfl ?_
        refine J_iload 4 dL_law_783 rfl ?_
        refine J_iconst (v := nI 1) dL_law_785 rfl ?_
        refine J_iadd dL_law_786 ?_
        refine J_G (fun g178 => ?_)
        refine J_sld hxs hLs g178 dL_law_787 ?_
        refine J_G (fun g179 => ?_)
        refine J.callV (n := 1) (As := [.int (xs (i4 + (nI 1)).toNatClampNeg)]) kc_15 (ctX15_trial (lx x) (wx x) a2 (xs (i4 + (nI 1)).toNatClampNeg) h176) kw_9_45 kw_9_42 kw_9_43 kw_9_44 kw_1_13 (by decide +kernel) rfl (by decide) (by simp [rv_cat, cat_I, cat_L, cat_S]) rfl dL_law_788 g179 (fun v181 h180 => ?_)
        show J x _ _ 791 _ [.int v181, .int v177] h180 _
        refine J_icmp_eq (tgt := 1181) dL_law_791 rfl ?_ ?_
        · exact (jL_law_B1181 x xs Ls hxs hLs (L_law_B23 xs Ls n) ih a1 a2 a3 i4 h180)
        · refine J_iconst (v := nI 0) dL_law_794 rfl ?_
          exact J_lawret dL_law_795
      refine J_tcase (c0 := nI 17) (tgt := 796) dL_law_40 (by decide) (by decide) rfl rfl ?_ (fun n189 => ?_)
      · refine J_aload_n 1 dL_law_796 rv_is rfl ?_
        refine J_G (fun g183 => ?_)
        refine J.callV (n := 0) (As := []) kc_11 (ctX11_tried (lx x) (wx x) a1 h) kw_5_165 kw_5_162 kw_5_163 kw_5_164 kw_1_1 (by decide +kernel) rfl (by decide) (Nat.zero_le _) rfl dL_law_797 g183 (fun v185 h184 => ?_)
        show J x _ _ 800 _ [.int v185] h184 _
        refine J_aload_n 2 dL_law_800 rv_is rfl ?_
        refine J_G (fun g186 => ?_)
        refine J.callV (n := 0) (As := []) kc_15 (ctX15_tried (lx x) (wx x) a2 h184) kw_9_69 kw_9_66 kw_9_67 kw_9_68 kw_1_13 (by decide +kernel) rfl (by decide) (by simp [rv_cat, cat_I, cat_L, cat_S]) rfl dL_law_801 g186 (fun v188 h187 => ?_)
        show J x _ _ 804 _ [.int v188, .int v185] h187 _
        refine J_icmp_eq (tgt := 1181) dL_law_804 rfl ?_ ?_
        · exact (jL_law_B1181 x xs Ls hxs hLs (L_law_B23 xs Ls n) ih a1 a2 a3 i4 h187)
        · refine J_iconst (v := nI 0) dL_law_807 rfl ?_
          exact J_lawret dL_law_808
      refine J_tcase (c0 := nI 18) (tgt := 809) dL_law_40 (by decide) (by decide) rfl rfl ?_ (fun n196 => ?_)
      · refine J_aload_n 1 dL_law_809 rv_is rfl ?_
        refine J_G (fun g190 => ?_)
        refine J.callV (n := 0) (As := []) kc_11 (ctX11_known (lx x) (wx x) a1 h) kw_5_169 kw_5_166 kw_5_167 kw_5_168 kw_1_1 (by decide +kernel) rfl (by decide) (Nat.zero_le _) rfl dL_law_810 g190 (fun v192 h191 => ?_)
        show J x _ _ 813 _ [.int v192] h191 _
        refine J_aload_n 2 dL_law_813 rv_is rfl ?_
        refine J_G (fun g193 => ?_)
        refine J.callV (n := 0) (As := []) kc_15 (ctX15_known (lx x) (wx x) a2 h191) kw_9_73 kw_9_70 kw_9_71 kw_9_72 kw_1_13 (by decide +kernel) rfl (by decide) (by simp [rv_cat, cat_I, cat_L, cat_S]) rfl dL_law_814 g193 (fun v195 h194 => ?_)
        show J x _ _ 817 _ [.int v195, .int v192] h194 _
        refine J_icmp_eq (tgt := 1181) dL_law_817 rfl ?_ ?_
        · exact (jL_law_B1181 x xs Ls hxs hLs (L_law_B23 xs Ls n) ih a1 a2 a3 i4 h194)
        · refine J_iconst (v := nI 0) dL_law_820 rfl ?_
          exact J_lawret dL_law_821
      refine J_tcase (c0 := nI 19) (tgt := 822) dL_law_40 (by decide) (by decide) rfl rfl ?_ (fun n205 => ?_)
      · refine J_aload_n 1 dL_law_822 rv_is rfl ?_
        refine J_aload_n 0 dL_law_823 scv_is rfl ?_
        refine J_iload 4 dL_law_824 rfl ?_
        refine J_iconst (v := nI 1) dL_law_826 rfl ?_
        refine J_iadd dL_law_827 ?_
        refine J_G (fun g197 => ?_)
        refine J_sld hxs hLs g197 dL_law_828 ?_
        refine J_G (fun g198 => ?_)
        refine J.callV (n := 1) (As := [.int (xs (i4 + (nI 1)).toNatClampNeg)]) kc_11 (ctX11_found (lx x) (wx x) a1 (xs (i4 + (nI 1)).toNatClampNeg) h) kw_5_173 kw_5_170 kw_5_171 kw_5_172 kw_1_1 (by decide +kernel) rfl (by decide) (Nat.zero_le _) rfl dL_law_829 g198 (fun v200 h199 => ?_)
        show J x _ _ 832 _ [.int v200] h199 _
        refine J_aload_n 2 dL_law_832 rv_is rfl ?_
        refine J_aload_n 0 dL_law_833 scv_is rfl ?_
        refine J_iload 4 dL_law_834 rfl ?_
        refine J_iconst (v := nI 1) dL_law_836 rfl ?_
        refine J_iadd dL_law_837 ?_
        refine J_G (fun g201 => ?_)
        refine J_sld hxs hLs g201 dL_law_838 ?_
        refine J_G (fun g202 => ?_)
        refine J.callV (n := 1) (As := [.int (xs (i4 + (nI 1)).toNatClampNeg)]) kc_15 (ctX15_found (lx x) (wx x) a2 (xs (i4 + (nI 1)).toNatClampNeg) h199) kw_9_77 kw_9_74 kw_9_75 kw_9_76 kw_1_13 (by decide +kernel) rfl (by decide) (by simp [rv_cat, cat_I, cat_L, cat_S]) rfl dL_law_839 g202 (fun v204 h203 => ?_)
        show J x _ _ 842 _ [.int v204, .int v200] h203 _
        refine J_icmp_eq (tgt := 1181) dL_law_842 rfl ?_ ?_
        · exact (jL_law_B1181 x xs Ls hxs hLs (L_law_B23 xs Ls n) ih a1 a2 a3 i4 h203)
        · refine J_iconst (v := nI 0) dL_law_845 rfl ?_
          exact J_lawret dL_law_846
      refine J_tcase (c0 := nI 20) (tgt := 847) dL_law_40 (by decide) (by decide) rfl rfl ?_ (fun n212 => ?_)
      · refine J_aload_n 1 dL_law_847 rv_is rfl ?_
        refine J_G (fun g206 => ?_)
        refine J.callV (n := 0) (As := []) kc_11 (ctX11_exact (lx x) (wx x) a1 h) kw_5_181 kw_5_178 kw_5_179 kw_5_180 kw_1_1 (by decide +kernel) rfl (by decide) (Nat.zero_le _) rfl dL_law_848 g206 (fun v208 h207 => ?_)
        show J x _ _ 851 _ [.int v208] h207 _
        refine J_aload_n 2 dL_law_851 rv_is rfl ?_
        refine J_G (fun g209 => ?_)
        refine J.callV (n := 0) (As := []) kc_15 (ctX15_exact (lx x) (wx x) a2 h207) kw_9_81 kw_9_78 kw_9_79 kw_9_80 kw_1_13 (by decide +kernel) rfl (by decide) (by simp [rv_cat, cat_I, cat_L, cat_S]) rfl dL_law_852 g209 (fun v211 h210 => ?_)
        show J x _ _ 855 _ [.int v211, .int v208] h210 _
        refine J_icmp_eq (tgt := 1181) dL_law_855 rfl ?_ ?_
        · exact (jL_law_B1181 x xs Ls hxs hLs (L_law_B23 xs Ls n) ih a1 a2 a3 i4 h210)
        · refine J_iconst (v := nI 0) dL_law_858 rfl ?_
          exact J_lawret dL_law_859
      refine J_tcase (c0 := nI 21) (tgt := 860) dL_law_40 (by decide) (by decide) rfl rfl ?_ (fun n221 => ?_)
      · refine J_aload_n 1 dL_law_860 rv_is rfl ?_
        refine J_aload_n 0 dL_law_861 scv_is rfl ?_
        refine J_iload 4 dL_law_862 rfl ?_
        refine J_iconst (v := nI 1) dL_law_864 rfl ?_
        refine J_iadd dL_law_865 ?_
        refine J_G (fun g213 => ?_)
        refine J_sld hxs hLs g213 dL_law_866 ?_
        refine J_G (fun g214 => ?_)
        refine J.callV (n := 1) (As := [.int (xs (i4 + (nI 1)).toNatClampNeg)]) kc_11 (ctX11_exactly (lx x) (wx x) a1 (xs (i4 + (nI 1)).toNatClampNeg) h) kw_5_199 kw_5_196 kw_5_197 kw_5_198 kw_1_1 (by decide +kernel) rfl (by decide) (Nat.zero_le _) rfl dL_law_867 g214 (fun v216 h215 => ?_)
        show J x _ _ 870 _ [.int v216] h215 _
        refine J_aload_n 2 dL_law_870 rv_is rfl ?_
        refine J_aload_n 0 dL_law_871 scv_is rfl ?_
        refine J_iload 4 dL_law_872 rfl ?_
        refine J_iconst (v := nI 1) dL_law_874 rfl ?_
        refine J_iadd dL_law_875 ?_
        refine J_G (fun g217 => ?_)
        refine J_sld hxs hLs g217 dL_law_876 ?_
        refine J_G (fun g218 => ?_)
        refine J.callV (n := 1) (As := [.int (xs (i4 + (nI 1)).toNatClampNeg)]) kc_15 (ctX15_exactly (lx x) (wx x) a2 (xs (i4 + (nI 1)).toNatClampNeg) h215) kw_9_85 kw_9_82 kw_9_83 kw_9_84 kw_1_13 (by decide +kernel) rfl (by decide) (by simp [rv_cat, cat_I, cat_L, cat_S]) rfl dL_law_877 g218 (fun v220 h219 => ?_)
        show J x _ _ 880 _ [.int v220, .int v216] h219 _
        refine J_icmp_eq (tgt := 1181) dL_law_880 rfl ?_ ?_
        · exact (jL_law_B1181 x xs Ls hxs hLs (L_law_B23 xs Ls n) ih a1 a2 a3 i4 h219)
        · refine J_iconst (v := nI 0) dL_law_883 rfl ?_
          exact J_lawret dL_law_884
      refine J_tcase (c0 := nI 22) (tgt := 885) dL_law_40 (by decide) (by decide) rfl rfl ?_ (fun n228 => ?_)
      · refine J_aload_n 1 dL_law_885 rv_is rfl ?_
        refine J_G (fun g222 => ?_)
        refine J.callV (n := 0) (As := []) kc_11 (ctX11_cut (lx x) (wx x) a1 h) kw_5_203 kw_5_200 kw_5_201 kw_5_202 kw_1_1 (by decide +kernel) rfl (by decide) (Nat.zero_le _) rfl dL_law_886 g222 (fun v224 h223 => ?_)
        show J x _ _ 889 _ [.int v224] h223 _
        refine J_aload_n 2 dL_law_889 rv_is rfl ?_
        refine J_G (fun g225 => ?_)
        refine J.callV (n := 0) (As := []) kc_15 (ctX15_cut (lx x) (wx x) a2 h223) kw_9_89 kw_9_86 kw_9_87 kw_9_88 kw_1_13 (by decide +kernel) rfl (by decide) (by simp [rv_cat, cat_I, cat_L, cat_S]) rfl dL_law_890 g225 (fun v227 h226 => ?_)
        show J x _ _ 893 _ [.int v227, .int v224] h226 _
        refine J_icmp_eq (tgt := 1181) dL_law_893 rfl ?_ ?_
        · exact (jL_law_B1181 x xs Ls hxs hLs (L_law_B23 xs Ls n) ih a1 a2 a3 i4 h226)
        · refine J_iconst (v := nI 0) dL_law_896 rfl ?_
          exact J_lawret dL_law_897
      refine J_tcase (c0 := nI 23) (tgt := 898) dL_law_40 (by decide) (by decide) rfl rfl ?_ (fun n237 => ?_)
      · refine J_aload_n 1 dL_law_898 rv_is rfl ?_
        refine J_aload_n 0 dL_law_899 scv_is rfl ?_
        refine J_iload 4 dL_law_900 rfl ?_
        refine J_iconst (v := nI 1) dL_law_902 rfl ?_
        refine J_iadd dL_law_903 ?_
        refine J_G (fun g229 => ?_)
        refine J_sld hxs hLs g229 dL_law_904 ?_
        refine J_G (fun g230 => ?_)
        refine J.callV (n := 1) (As := [.int (xs (i4 + (nI 1)).toNatClampNeg)]) kc_11 (ctX11_told (lx x) (wx x) a1 (xs (i4 + (nI 1)).toNatClampNeg) h) kw_5_216 kw_5_213 kw_5_214 kw_5_215 kw_1_1 (by decide +kernel) rfl (by decide) (Nat.zero_le _) rfl dL_law_905 g230 (fun v232 h231 => ?_)
        show J x _ _ 908 _ [.int v232] h231 _
        refine J_aload_n 2 dL_law_908 rv_is rfl ?_
        refine J_aload_n 0 dL_law_909 scv_is rfl ?_
        refine J_iload 4 dL_law_910 rfl ?_
        refine J_iconst (v := nI 1) dL_law_912 rfl ?_
        refine J_iadd dL_law_913 ?_
        refine J_G (fun g233 => ?_)
        refine J_sld hxs hLs g233 dL_law_914 ?_
        refine J_G (fun g234 => ?_)
        refine J.callV (n := 1) (As := [.int (xs (i4 + (nI 1)).toNatClampNeg)]) kc_15 (ctX15_told (lx x) (wx x) a2 (xs (i4 + (nI 1)).toNatClampNeg) h231) kw_9_93 kw_9_90 kw_9_91 kw_9_92 kw_1_13 (by decide +kernel) rfl (by decide) (by simp [rv_cat, cat_I, cat_L, cat_S]) rfl dL_law_915 g234 (fun v236 h235 => ?_)
        show J x _ _ 918 _ [.int v236, .int v232] h235 _
        refine J_icmp_eq (tgt := 1181) dL_law_918 rfl ?_ ?_
        · exact (jL_law_B1181 x xs Ls hxs hLs (L_law_B23 xs Ls n) ih a1 a2 a3 i4 h235)
        · refine J_iconst (v := nI 0) dL_law_921 rfl ?_
          exact J_lawret dL_law_922
      refine J_tcase (c0 := nI 24) (tgt := 923) dL_law_40 (by decide) (by decide) rfl rfl ?_ (fun n246 => ?_)
      · refine J_aload_n 1 dL_law_923 rv_is rfl ?_
        refine J_aload_n 0 dL_law_924 scv_is rfl ?_
        refine J_iload 4 dL_law_925 rfl ?_
        refine J_iconst (v := nI 1) dL_law_927 rfl ?_
        refine J_iadd dL_law_928 ?_
        refine J_G (fun g238 => ?_)
        refine J_sld hxs hLs g238 dL_law_929 ?_
        refine J_G (fun g239 => ?_)
        refine J.callV (n := 1) (As := [.int (xs (i4 + (nI 1)).toNatClampNeg)]) kc_11 (ctX11_start (lx x) (wx x) a1 (xs (i4 + (nI 1)).toNatClampNeg) h) kw_5_220 kw_5_217 kw_5_218 kw_5_219 kw_1_1 (by decide +kernel) rfl (by decide) (Nat.zero_le _) rfl dL_law_930 g239 (fun v241 h240 => ?_)
        show J x _ _ 933 _ [.int v241] h240 _
        refine J_aload_n 2 dL_law_933 rv_is rfl ?_
        refine J_aload_n 0 dL_law_934 scv_is rfl ?_
        refine J_iload 4 dL_law_935 rfl ?_
        refine J_iconst (v := nI 1) dL_law_937 rfl ?_
        refine J_iadd dL_law_938 ?_
        refine J_G (fun g242 => ?_)
        refine J_sld hxs hLs g242 dL_law_939 ?_
        refine J_G (fun g243 => ?_)
        refine J.callV (n := 1) (As := [.int (xs (i4 + (nI 1)).toNatClampNeg)]) kc_15 (ctX15_start (lx x) (wx x) a2 (xs (i4 + (nI 1)).toNatClampNeg) h240) kw_9_97 kw_9_94 kw_9_95 kw_9_96 kw_1_13 (by decide +kernel) rfl (by decide) (by simp [rv_cat, cat_I, cat_L, cat_S]) rfl dL_law_940 g243 (fun v245 h244 => ?_)
        show J x _ _ 943 _ [.int v245, .int v241] h244 _
        refine J_icmp_eq (tgt := 1181) dL_law_943 rfl ?_ ?_
        · exact (jL_law_B1181 x xs Ls hxs hLs (L_law_B23 xs Ls n) ih a1 a2 a3 i4 h244)
        · refine J_iconst (v := nI 0) dL_law_946 rfl ?_
          exact J_lawret dL_law_947
      refine J_tcase (c0 := nI 25) (tgt := 948) dL_law_40 (by decide) (by decide) rfl rfl ?_ (fun n253 => ?_)
      · refine J_aload_n 1 dL_law_948 rv_is rfl ?_
        refine J_G (fun g247 => ?_)
        refine J.callV (n := 0) (As := []) kc_11 (ctX11_thin (lx x) (wx x) a1 h) kw_5_224 kw_5_221 kw_5_222 kw_5_223 kw_1_1 (by decide +kernel) rfl (by decide) (Nat.zero_le _) rfl dL_law_949 g247 (fun v249 h248 => ?_)
        show J x _ _ 952 _ [.int v249] h248 _
        refine J_aload_n 2 dL_law_952 rv_is rfl ?_
        refine J_G (fun g250 => ?_)
        refine J.callV (n := 0) (As := []) kc_15 (ctX15_thin (lx x) (wx x) a2 h248) kw_9_101 kw_9_98 kw_9_99 kw_9_100 kw_1_13 (by decide +kernel) rfl (by decide) (by simp [rv_cat, cat_I, cat_L, cat_S]) rfl dL_law_953 g250 (fun v252 h251 => ?_)
        show J x _ _ 956 _ [.int v252, .int v249] h251 _
        refine J_icmp_eq (tgt := 1181) dL_law_956 rfl ?_ ?_
        · exact (jL_law_B1181 x xs Ls hxs hLs (L_law_B23 xs Ls n) ih a1 a2 a3 i4 h251)
        · refine J_iconst (v := nI 0) dL_law_959 rfl ?_
          exact J_lawret dL_law_960
      refine J_tcase (c0 := nI 26) (tgt := 961) dL_law_40 (by decide) (by decide) rfl rfl ?_ (fun n260 => ?_)
      · refine J_aload_n 1 dL_law_961 rv_is rfl ?_
        refine J_G (fun g254 => ?_)
        refine J.callV (n := 0) (As := []) kc_11 (ctX11_thinness (lx x) (wx x) a1 h) kw_6_0 kw_5_237 kw_5_238 kw_5_239 kw_1_1 (by decide +kernel) rfl (by decide) (Nat.zero_le _) rfl dL_law_962 g254 (fun v256 h255 => ?_)
        show J x _ _ 965 _ [.int v256] h255 _
        refine J_aload_n 2 dL_law_965 rv_is rfl ?_
        refine J_G (fun g257 => ?_)
        refine J.callV (n := 0) (As := []) kc_15 (ctX15_thinness (lx x) (wx x) a2 h255) kw_9_109 kw_9_106 kw_9_107 kw_9_108 kw_1_13 (by decide +kernel) rfl (by decide) (by simp [rv_cat, cat_I, cat_L, cat_S]) rfl dL_law_966 g257 (fun v259 h258 => ?_)
        show J x _ _ 969 _ [.int v259, .int v256] h258 _
        refine J_icmp_eq (tgt := 1181) dL_law_969 rfl ?_ ?_
        · exact (jL_law_B1181 x xs Ls hxs hLs (L_law_B23 xs Ls n) ih a1 a2 a3 i4 h258)
        · refine J_iconst (v := nI 0) dL_law_972 rfl ?_
          exact J_lawret dL_law_973
      refine J_tcase (c0 := nI 27) (tgt := 974) dL_law_40 (by decide) (by decide) rfl rfl ?_ (fun n273 => ?_)
      · refine J_aload_n 1 dL_law_974 rv_is rfl ?_
        refine J_aload_n 0 dL_law_975 scv_is rfl ?_
        refine J_iload 4 dL_law_976 rfl ?_
        refine J_iconst (v := nI 1) dL_law_978 rfl ?_
        refine J_iadd dL_law_979 ?_
        refine J_G (fun g261 => ?_)
        refine J_sld hxs hLs g261 dL_law_980 ?_
        refine J_aload_n 3 dL_law_981 rv_is rfl ?_
        refine J.callSW (n := 3) (As := [rv (zx x) a1, .int (xs (i4 + (nI 1)).toNatClampNeg), rv (zx x) a3]) (ctL_led (lx x) (wx x) a1 (xs (i4 + (nI 1)).toNatClampNeg) a3 h) kw_6_130 kw_6_128 kw_6_129 kw_1_0 (by decide +kernel) rfl (by decide) (Nat.zero_le _) rfl dL_law_982 (fun v263 h262 => ?_)
        show J x _ _ 985 _ [.int v263] h262 _
        refine J_istore dL_law_985 (by decide) (SD.a (lvr := [(0, scv (wx x)), (1, rv (zx x) a1), (2, rv (zx x) a2), (3, rv (zx x) a3), (4, .int i4)]) [0, 1, 2, 3, 4] rfl rfl) ?_
        refine J_aload_n 3 dL_law_987 rv_is rfl ?_
        refine J_aload_n 1 dL_law_988 scv_is rfl ?_
        refine J_iload 5 dL_law_989 rfl ?_
        refine J_iconst (v := nI 1) dL_law_991 rfl ?_
        refine J_iadd dL_law_992 ?_
        refine J_G (fun g264 => ?_)
        refine J_sld hxs hLs g264 dL_law_993 ?_
        refine J_G (fun g265 => ?_)
        refine J.callV (n := 1) (As := [.int (xs (i4 + (nI 1)).toNatClampNeg)]) kc_15 (ctX15_led (lx x) (wx x) a2 (xs (i4 + (nI 1)).toNatClampNeg) h262) kw_9_113 kw_9_110 kw_9_111 kw_9_112 kw_1_13 (by decide +kernel) rfl (by decide) (Nat.zero_le _) rfl dL_law_994 g265 (fun v267 h266 => ?_)
        show J x _ _ 997 _ [.int v267] h266 _
        refine J_istore dL_law_997 (by decide) (SD.a (lvr := [(5, .int v263), (0, scv (wx x)), (1, rv (zx x) a1), (2, rv (zx x) a2), (3, rv (zx x) a3), (4, .int i4)]) [0, 1, 2, 3, 4, 5] rfl rfl) ?_
        refine J_aload_n 4 dL_law_999 rv_is rfl ?_
        refine J_G (fun g268 => ?_)
        refine J.callV (n := 0) (As := []) kc_15 (ctX15_thrown (lx x) (wx x) a2 h266) kw_7_127 kw_7_124 kw_7_125 kw_7_126 kw_1_13 (by decide +kernel) rfl (by decide) (Nat.zero_le _) rfl dL_law_1000 g268 (fun v270 h269 => ?_)
        show J x _ _ 1003 _ [.int v270] h269 _
        refine J_iload 1 dL_law_1003 rfl ?_
        refine J_icmp_eq (tgt := 1010) dL_law_1005 rfl ?_ ?_
        · refine J_iload 1 dL_law_1010 rfl ?_
          refine J_if_ne (tgt := 1027) dL_law_1012 rfl ?_ ?_
          · exact J_sub [2, 3, 4, 5, 6] rfl (jL_law_B1027 x xs Ls hxs hLs (L_law_B23 xs Ls n) ih a1 a2 a3 i4 h269)
          · refine J_aload_n 5 dL_law_1015 rv_is rfl ?_
            refine J_iconst (v := nI 0) dL_law_1016 rfl ?_
            refine J_G (fun g271 => ?_)
            refine J_G (fun g272 => ?_)
            refine J_lald dL_law_1017 g271 g272 ?_
            refine J_iload 0 dL_law_1018 rfl ?_
            refine J_i2l dL_law_1020 ?_
            refine J_lcmp dL_law_1021 ?_
            refine J_if_eq (tgt := 1027) dL_law_1022 rfl ?_ ?_
            · exact J_sub [2, 3, 4, 5, 6] rfl (jL_law_B1027 x xs Ls hxs hLs (L_law_B23 xs Ls n) ih a1 a2 a3 i4 h269)
            · refine J_iconst (v := nI 0) dL_law_1025 rfl ?_
              exact J_lawret dL_law_1026
        · refine J_iconst (v := nI 0) dL_law_1008 rfl ?_
          exact J_lawret dL_law_1009
      refine J_tcase (c0 := nI 28) (tgt := 1030) dL_law_40 (by decide) (by decide) rfl rfl ?_ (fun n284 => ?_)
      · refine J_aload_n 1 dL_law_1030 rv_is rfl ?_
        refine J_aload_n 0 dL_law_1031 scv_is rfl ?_
        refine J_iload 4 dL_law_1032 rfl ?_
        refine J_iconst (v := nI 1) dL_law_1034 rfl ?_
        refine J_iadd dL_law_1035 ?_
        refine J_G (fun g274 => ?_)
        refine J_sld hxs hLs g274 dL_law_1036 ?_
        refine J_aload_n 0 dL_law_1037 scv_is rfl ?_
        refine J_iload 4 dL_law_1038 rfl ?_
        refine J_iconst (v := nI 2) dL_law_1040 rfl ?_
        refine J_iadd dL_law_1041 ?_
        refine J_G (fun g275 => ?_)
        refine J_sld hxs hLs g275 dL_law_1042 ?_
        refine J_G (fun g276 => ?_)
        refine J.callV (n := 2) (As := [.int (xs (i4 + (nI 1)).toNatClampNeg), .int (xs (i4 + (nI 2)).toNatClampNeg)]) kc_11 (ctX11_mend (lx x) (wx x) a1 (xs (i4 + (nI 1)).toNatClampNeg) (xs (i4 + (nI 2)).toNatClampNeg) h) kw_6_4 kw_6_1 kw_6_2 kw_6_3 kw_1_1 (by decide +kernel) rfl (by decide) (Nat.zero_le _) rfl dL_law_1043 g276 (fun v278 h277 => ?_)
        show J x _ _ 1046 _ [.int v278] h277 _
        refine J_aload_n 2 dL_law_1046 rv_is rfl ?_
        refine J_aload_n 0 dL_law_1047 scv_is rfl ?_
        refine J_iload 4 dL_law_1048 rfl ?_
        refine J_iconst (v := nI 1) dL_law_1050 rfl ?_
        refine J_iadd dL_law_1051 ?_
        refine J_G (fun g279 => ?_)
        refine J_sld hxs hLs g279 dL_law_1052 ?_
        refine J_aload_n 0 dL_law_1053 scv_is rfl ?_
        refine J_iload 4 dL_law_1054 rfl ?_
        refine J_iconst (v := nI 2) dL_law_1056 rfl ?_
        refine J_iadd dL_law_1057 ?_
        refine J_G (fun g280 => ?_)
        refine J_sld hxs hLs g280 dL_law_1058 ?_
        refine J_G (fun g281 => ?_)
        refine J.callV (n := 2) (As := [.int (xs (i4 + (nI 1)).toNatClampNeg), .int (xs (i4 + (nI 2)).toNatClampNeg)]) kc_15 (ctX15_mend (lx x) (wx x) a2 (xs (i4 + (nI 1)).toNatClampNeg) (xs (i4 + (nI 2)).toNatClampNeg) h277) kw_9_127 kw_9_124 kw_9_125 kw_9_126 kw_1_13 (by decide +kernel) rfl (by decide) (by simp [rv_cat, cat_I, cat_L, cat_S]) rfl dL_law_1059 g281 (fun v283 h282 => ?_)
        show J x _ _ 1062 _ [.int v283, .int v278] h282 _
        refine J_icmp_eq (tgt := 1181) dL_law_1062 rfl ?_ ?_
        · exact (jL_law_B1181 x xs Ls hxs hLs (L_law_B23 xs Ls n) ih a1 a2 a3 i4 h282)
        · refine J_iconst (v := nI 0) dL_law_1065 rfl ?_
          exact J_lawret dL_law_1066
      refine J_tcase (c0 := nI 29) (tgt := 1067) dL_law_40 (by decide) (by decide) rfl rfl ?_ (fun n291 => ?_)
      · refine J_aload_n 1 dL_law_1067 rv_is rfl ?_
        refine J_G (fun g285 => ?_)
        refine J.callV (n := 0) (As := []) kc_11 (ctX11_keep (lx x) (wx x) a1 h) kw_6_9 kw_6_6 kw_6_7 kw_6_8 kw_1_1 (by decide +kernel) rfl (by decide) (Nat.zero_le _) rfl dL_law_1068 g285 (fun v287 h286 => ?_)
        show J x _ _ 1071 _ [.int v287] h286 _
        refine J_aload_n 2 dL_law_1071 rv_is rfl ?_
        refine J_G (fun g288 => ?_)
        refine J.callV (n := 0) (As := []) kc_15 (ctX15_keep (lx x) (wx x) a2 h286) kw_9_131 kw_9_128 kw_9_129 kw_9_130 kw_1_13 (by decide +kernel) rfl (by decide) (by simp [rv_cat, cat_I, cat_L, cat_S]) rfl dL_law_1072 g288 (fun v290 h289 => ?_)
        show J x _ _ 1075 _ [.int v290, .int v287] h289 _
        refine J_icmp_eq (tgt := 1181) dL_law_1075 rfl ?_ ?_
        · exact (jL_law_B1181 x xs Ls hxs hLs (L_law_B23 xs Ls n) ih a1 a2 a3 i4 h289)
        · refine J_iconst (v := nI 0) dL_law_1078 rfl ?_
          exact J_lawret dL_law_1079
      refine J_tcase (c0 := nI 30) (tgt := 1080) dL_law_40 (by decide) (by decide) rfl rfl ?_ (fun n300 => ?_)
      · refine J_aload_n 1 dL_law_1080 rv_is rfl ?_
        refine J_aload_n 0 dL_law_1081 scv_is rfl ?_
        refine J_iload 4 dL_law_1082 rfl ?_
        refine J_iconst (v := nI 1) dL_law_1084 rfl ?_
        refine J_iadd dL_law_1085 ?_
        refine J_G (fun g292 => ?_)
        refine J_sld hxs hLs g292 dL_law_1086 ?_
        refine J_G (fun g293 => ?_)
        refine J.callV (n := 1) (As := [.int (xs (i4 + (nI 1)).toNatClampNeg)]) kc_11 (ctX11_fit (lx x) (wx x) a1 (xs (i4 + (nI 1)).toNatClampNeg) h) kw_6_13 kw_6_10 kw_6_11 kw_6_12 kw_1_1 (by decide +kernel) rfl (by decide) (Nat.zero_le _) rfl dL_law_1087 g293 (fun v295 h294 => ?_)
        show J x _ _ 1090 _ [.int v295] h294 _
        refine J_aload_n 2 dL_law_1090 rv_is rfl ?_
        refine J_aload_n 0 dL_law_1091 scv_is rfl ?_
        refine J_iload 4 dL_law_1092 rfl ?_
        refine J_iconst (v := nI 1) dL_law_1094 rfl ?_
        refine J_iadd dL_law_1095 ?_
        refine J_G (fun g296 => ?_)
        refine J_sld hxs hLs g296 dL_law_1096 ?_
        refine J_G (fun g297 => ?_)
        refine J.callV (n := 1) (As := [.int (xs (i4 + (nI 1)).toNatClampNeg)]) kc_15 (ctX15_fit (lx x) (wx x) a2 (xs (i4 + (nI 1)).toNatClampNeg) h294) kw_9_135 kw_9_132 kw_9_133 kw_9_134 kw_1_13 (by decide +kernel) rfl (by decide) (by simp [rv_cat, cat_I, cat_L, cat_S]) rfl dL_law_1097 g297 (fun v299 h298 => ?_)
        show J x _ _ 1100 _ [.int v299, .int v295] h298 _
        refine J_icmp_eq (tgt := 1181) dL_law_1100 rfl ?_ ?_
        · exact (jL_law_B1181 x xs Ls hxs hLs (L_law_B23 xs Ls n) ih a1 a2 a3 i4 h298)
        · refine J_iconst (v := nI 0) dL_law_1103 rfl ?_
          exact J_lawret dL_law_1104
      refine J_tcase (c0 := nI 31) (tgt := 1105) dL_law_40 (by decide) (by decide) rfl rfl ?_ (fun n307 => ?_)
      · refine J_aload_n 1 dL_law_1105 rv_is rfl ?_
        refine J_G (fun g301 => ?_)
        refine J.callV (n := 0) (As := []) kc_11 (ctX11_least (lx x) (wx x) a1 h) kw_6_33 kw_6_30 kw_6_31 kw_6_32 kw_1_1 (by decide +kernel) rfl (by decide) (Nat.zero_le _) rfl dL_law_1106 g301 (fun v303 h302 => ?_)
        show J x _ _ 1109 _ [.int v303] h302 _
        refine J_aload_n 2 dL_law_1109 rv_is rfl ?_
        refine J_G (fun g304 => ?_)
        refine J.callV (n := 0) (As := []) kc_15 (ctX15_least (lx x) (wx x) a2 h302) kw_9_147 kw_9_144 kw_9_145 kw_9_146 kw_1_13 (by decide +kernel) rfl (by decide) (by simp [rv_cat, cat_I, cat_L, cat_S]) rfl dL_law_1110 g304 (fun v306 h305 => ?_)
        show J x _ _ 1113 _ [.int v306, .int v303] h305 _
        refine J_icmp_eq (tgt := 1181) dL_law_1113 rfl ?_ ?_
        · exact (jL_law_B1181 x xs Ls hxs hLs (L_law_B23 xs Ls n) ih a1 a2 a3 i4 h305)
        · refine J_iconst (v := nI 0) dL_law_1116 rfl ?_
          exact J_lawret dL_law_1117
      refine J_tcase (c0 := nI 32) (tgt := 1118) dL_law_40 (by decide) (by decide) rfl rfl ?_ (fun n316 => ?_)
      · refine J_aload_n 1 dL_law_1118 rv_is rfl ?_
        refine J_aload_n 0 dL_law_1119 scv_is rfl ?_
        refine J_iload 4 dL_law_1120 rfl ?_
        refine J_iconst (v := nI 1) dL_law_1122 rfl ?_
        refine J_iadd dL_law_1123 ?_
        refine J_G (fun g308 => ?_)
        refine J_sld hxs hLs g308 dL_law_1124 ?_
        refine J_G (fun g309 => ?_)
        refine J.callV (n := 1) (As := [.int (xs (i4 + (nI 1)).toNatClampNeg)]) kc_11 (ctX11_make (lx x) (wx x) a1 (xs (i4 + (nI 1)).toNatClampNeg) h) kw_6_43 kw_6_40 kw_6_41 kw_6_42 kw_1_1 (by decide +kernel) rfl (by decide) (Nat.zero_le _) rfl dL_law_1125 g309 (fun v311 h310 => ?_)
        show J x _ _ 1128 _ [.int v311] h310 _
        refine J_aload_n 2 dL_law_1128 rv_is rfl ?_
        refine J_aload_n 0 dL_law_1129 scv_is rfl ?_
        refine J_iload 4 dL_law_1130 rfl ?_
        refine J_iconst (v := nI 1) dL_law_1132 rfl ?_
        refine J_iadd dL_law_1133 ?_
        refine J_G (fun g312 => ?_)
        refine J_sld hxs hLs g312 dL_law_1134 ?_
        refine J_G (fun g313 => ?_)
        refine J.callV (n := 1) (As := [.int (xs (i4 + (nI 1)).toNatClampNeg)]) kc_15 (ctX15_make (lx x) (wx x) a2 (xs (i4 + (nI 1)).toNatClampNeg) h310) kw_9_154 kw_9_151 kw_9_152 kw_9_153 kw_1_13 (by decide +kernel) rfl (by decide) (by simp [rv_cat, cat_I, cat_L, cat_S]) rfl dL_law_1135 g313 (fun v315 h314 => ?_)
        show J x _ _ 1138 _ [.int v315, .int v311] h314 _
        refine J_icmp_eq (tgt := 1181) dL_law_1138 rfl ?_ ?_
        · exact (jL_law_B1181 x xs Ls hxs hLs (L_law_B23 xs Ls n) ih a1 a2 a3 i4 h314)
        · refine J_iconst (v := nI 0) dL_law_1141 rfl ?_
          exact J_lawret dL_law_1142
      refine J_tcase (c0 := nI 33) (tgt := 1143) dL_law_40 (by decide) (by decide) rfl rfl ?_ (fun n325 => ?_)
      · refine J_aload_n 1 dL_law_1143 rv_is rfl ?_
        refine J_aload_n 0 dL_law_1144 scv_is rfl ?_
        refine J_iload 4 dL_law_1145 rfl ?_
        refine J_iconst (v := nI 1) dL_law_1147 rfl ?_
        refine J_iadd dL_law_1148 ?_
        refine J_G (fun g317 => ?_)
        refine J_sld hxs hLs g317 dL_law_1149 ?_
        refine J_G (fun g318 => ?_)
        refine J.callV (n := 1) (As := [.int (xs (i4 + (nI 1)).toNatClampNeg)]) kc_11 (ctX11_count (lx x) (wx x) a1 (xs (i4 + (nI 1)).toNatClampNeg) h) kw_6_47 kw_6_44 kw_6_45 kw_6_46 kw_1_1 (by decide +kernel) rfl (by decide) (Nat.zero_le _) rfl dL_law_1150 g318 (fun v320 h319 => ?_)
        show J x _ _ 1153 _ [.int v320] h319 _
        refine J_aload_n 2 dL_law_1153 rv_is rfl ?_
        refine J_aload_n 0 dL_law_1154 scv_is rfl ?_
        refine J_iload 4 dL_law_1155 rfl ?_
        refine J_iconst (v := nI 1) dL_law_1157 rfl ?_
        refine J_iadd dL_law_1158 ?_
        refine J_G (fun g321 => ?_)
        refine J_sld hxs hLs g321 dL_law_1159 ?_
        refine J_G (fun g322 => ?_)
        refine J.callV (n := 1) (As := [.int (xs (i4 + (nI 1)).toNatClampNeg)]) kc_15 (ctX15_count (lx x) (wx x) a2 (xs (i4 + (nI 1)).toNatClampNeg) h319) kw_9_158 kw_9_155 kw_9_156 kw_9_157 kw_1_13 (by decide +kernel) rfl (by decide) (by simp [rv_cat, cat_I, cat_L, cat_S]) rfl dL_law_1160 g322 (fun v324 h323 => ?_)
        show J x _ _ 1163 _ [.int v324, .int v320] h323 _
        refine J_icmp_eq (tgt := 1181) dL_law_1163 rfl ?_ ?_
        · exact (jL_law_B1181 x xs Ls hxs hLs (L_law_B23 xs Ls n) ih a1 a2 a3 i4 h323)
        · refine J_iconst (v := nI 0) dL_law_1166 rfl ?_
          exact J_lawret dL_law_1167
      refine J_tcase (c0 := nI 34) (tgt := 1168) dL_law_40 (by decide) (by decide) rfl rfl ?_ (fun n332 => ?_)
      · refine J_aload_n 1 dL_law_1168 rv_is rfl ?_
        refine J_G (fun g326 => ?_)
        refine J.callV (n := 0) (As := []) kc_11 (ctX11_trouble (lx x) (wx x) a1 h) kw_6_56 kw_6_53 kw_6_54 kw_6_55 kw_1_1 (by decide +kernel) rfl (by decide) (Nat.zero_le _) rfl dL_law_1169 g326 (fun v328 h327 => ?_)
        show J x _ _ 1172 _ [.int v328] h327 _
        refine J_aload_n 2 dL_law_1172 rv_is rfl ?_
        refine J_G (fun g329 => ?_)
        refine J.callV (n := 0) (As := []) kc_15 (ctX15_trouble (lx x) (wx x) a2 h327) kw_9_166 kw_9_163 kw_9_164 kw_9_165 kw_1_13 (by decide +kernel) rfl (by decide) (by simp [rv_cat, cat_I, cat_L, cat_S]) rfl dL_law_1173 g329 (fun v331 h330 => ?_)
        show J x _ _ 1176 _ [.int v331, .int v328] h330 _
        refine J_icmp_eq (tgt := 1181) dL_law_1176 rfl ?_ ?_
        · exact (jL_law_B1181 x xs Ls hxs hLs (L_law_B23 xs Ls n) ih a1 a2 a3 i4 h330)
        · refine J_iconst (v := nI 0) dL_law_1179 rfl ?_
          exact J_lawret dL_law_1180
      refine J_tdef (tgt := 1181) dL_law_40 (by have := sw_ne (by decide : (nI 0 : Int32).toInt = 0) n18; have := sw_ne (by decide : (nI 1 : Int32).toInt = 1) n27; have := sw_ne (by decide : (nI 2 : Int32).toInt = 2) n34; have := sw_ne (by decide : (nI 3 : Int32).toInt = 3) n41; have := sw_ne (by decide : (nI 4 : Int32).toInt = 4) n50; have := sw_ne (by decide : (nI 5 : Int32).toInt = 5) n61; have := sw_ne (by decide : (nI 6 : Int32).toInt = 6) n74; have := sw_ne (by decide : (nI 7 : Int32).toInt = 7) n81; have := sw_ne (by decide : (nI 8 : Int32).toInt = 8) n88; have := sw_ne (by decide : (nI 9 : Int32).toInt = 9) n101; have := sw_ne (by decide : (nI 10 : Int32).toInt = 10) n114; have := sw_ne (by decide : (nI 11 : Int32).toInt = 11) n133; have := sw_ne (by decide : (nI 12 : Int32).toInt = 12) n144; have := sw_ne (by decide : (nI 13 : Int32).toInt = 13) n153; have := sw_ne (by decide : (nI 14 : Int32).toInt = 14) n160; have := sw_ne (by decide : (nI 15 : Int32).toInt = 15) n173; have := sw_ne (by decide : (nI 16 : Int32).toInt = 16) n182; have := sw_ne (by decide : (nI 17 : Int32).toInt = 17) n189; have := sw_ne (by decide : (nI 18 : Int32).toInt = 18) n196; have := sw_ne (by decide : (nI 19 : Int32).toInt = 19) n205; have := sw_ne (by decide : (nI 20 : Int32).toInt = 20) n212; have := sw_ne (by decide : (nI 21 : Int32).toInt = 21) n221; have := sw_ne (by decide : (nI 22 : Int32).toInt = 22) n228; have := sw_ne (by decide : (nI 23 : Int32).toInt = 23) n237; have := sw_ne (by decide : (nI 24 : Int32).toInt = 24) n246; have := sw_ne (by decide : (nI 25 : Int32).toInt = 25) n253; have := sw_ne (by decide : (nI 26 : Int32).toInt = 26) n260; have := sw_ne (by decide : (nI 27 : Int32).toInt = 27) n273; have := sw_ne (by decide : (nI 28 : Int32).toInt = 28) n284; have := sw_ne (by decide : (nI 29 : Int32).toInt = 29) n291; have := sw_ne (by decide : (nI 30 : Int32).toInt = 30) n300; have := sw_ne (by decide : (nI 31 : Int32).toInt = 31) n307; have := sw_ne (by decide : (nI 32 : Int32).toInt = 32) n316; have := sw_ne (by decide : (nI 33 : Int32).toInt = 33) n325; have := sw_ne (by decide : (nI 34 : Int32).toInt = 34) n332; omega) rfl ?_
      exact (jL_law_B1181 x xs Ls hxs hLs (L_law_B23 xs Ls n) ih a1 a2 a3 i4 h)
def L_law_f (xs : Nat → Int32) (Ls : Nat) (h : AH) : Option (Int32 × AH) :=
  LT (xn h) fun r2 =>
  LT (pN h 11 18) fun h1 =>
  G (xc h1 r2 ≠ 99) <|
  BN (X11_init_f r2 h1) fun _ h4 =>
  LT (xn h4) fun r6 =>
  LT (pN h4 15 51) fun h5 =>
  G (xc h5 r6 ≠ 99) <|
  BN (X15_init_f r6 h5) fun _ h8 =>
  LT (xn h8) fun r11 =>
  LT (pN h8 17 (nI 1).toNatClampNeg) fun h10 =>
  L_law_B23 xs Ls FU r2 r6 r11 (nI 0) h10
theorem jL_law (x : CT) (xs : Nat → Int32) (Ls : Nat) (hxs : xs = scx (wx x)) (hLs : Ls = scL (wx x)) (h : AH) : J x qL_law Zlaw 0 [(0, scv (wx x))] [] h (L_law_f xs Ls h) := by
  unfold L_law_f
  refine J_new kc_11 kw_1_29 kw_1_30 kw_1_1 dL_law_0 ?_
  refine J_LTr (fun r2 => ?_)
  refine J_LTh (fun h1 => ?_)
  refine J_dup dL_law_3 rv_cat ?_
  refine J_G (fun g3 => ?_)
  refine J.callI (n := 0) (As := []) (ctX11_init (lx x) (wx x) r2 h1) kw_1_33 kw_1_31 kw_1_32 kw_1_1 (by decide +kernel) rfl (by decide) (by simp [rv_cat, cat_I, cat_L, cat_S]) rfl dL_law_4 g3 (fun _ h4 => ?_)
  show J x _ _ 7 _ [rv (zx x) r2] h4 _
  refine J_astore_n rv_is dL_law_7 (by decide) (SD.a (lvr := [(0, scv (wx x))]) [0] rfl rfl) ?_
  refine J_new kc_15 kw_6_156 kw_6_157 kw_1_13 dL_law_8 ?_
  refine J_LTr (fun r6 => ?_)
  refine J_LTh (fun h5 => ?_)
  refine J_dup dL_law_11 rv_cat ?_
  refine J_G (fun g7 => ?_)
  refine J.callI (n := 0) (As := []) (ctX15_init (lx x) (wx x) r6 h5) kw_6_160 kw_6_158 kw_6_159 kw_1_13 (by decide +kernel) rfl (by decide) (by simp [rv_cat, cat_I, cat_L, cat_S]) rfl dL_law_12 g7 (fun _ h8 => ?_)
  show J x _ _ 15 _ [rv (zx x) r6] h8 _
  refine J_astore_n rv_is dL_law_15 (by decide) (SD.c (lvr := [(1, rv (zx x) r2), (0, scv (wx x))]) [0, 1] rfl rfl 0 rfl rfl rv_cat) ?_
  refine J_iconst (v := nI 1) dL_law_16 rfl ?_
  refine J_newarr17 kw_2_3 dL_law_17 (by decide) ?_
  refine J_LTr (fun r11 => ?_)
  refine J_LTh (fun h10 => ?_)
  refine J_astore_n rv_is dL_law_19 (by decide) (SD.c (lvr := [(2, rv (zx x) r6), (1, rv (zx x) r2), (0, scv (wx x))]) [0, 1, 2] rfl rfl 0 rfl rfl rv_cat) ?_
  refine J_iconst (v := nI 0) dL_law_20 rfl ?_
  refine J_istore dL_law_21 (by decide) (SD.c (lvr := [(3, rv (zx x) r11), (2, rv (zx x) r6), (1, rv (zx x) r2), (0, scv (wx x))]) [0, 1, 2, 3] rfl rfl 0 rfl rfl rv_cat) ?_
  exact J_sub [4, 3, 2, 1, 0] rfl (jL_law_B23 x xs Ls hxs hLs FU r2 r6 r11 (nI 0) h10)
