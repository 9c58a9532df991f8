theorem getD_mem {l : List Nat} {k : Nat} (hk : k < l.length) : l.getD k 0 ∈ l := by
  rw [List.getD_eq_getElem?_getD, List.getElem?_eq_getElem hk]; exact List.getElem_mem hk
theorem any_mem {l : List Nat} {d : Nat} : ((List.range l.length).any fun i => l.getD i 0 == d) = true ↔ d ∈ l := by
  rw [List.any_eq_true]
  constructor
  · rintro ⟨i, hi, e⟩
    have hi := List.mem_range.mp hi
    rw [beq_iff_eq] at e
    rw [← e]; exact getD_mem hi
  · intro q
    obtain ⟨i, hi, e⟩ := List.getElem_of_mem q
    exact ⟨i, List.mem_range.mpr hi, by rw [List.getD_eq_getElem?_getD, List.getElem?_eq_getElem hi]; simpa using e⟩
theorem mend_has {h : AH} {l : List Nat} {w c : Nat} (g : SG h) (fm : xI h 195 17 = nI l.length) (f1 : ∀ i, i < l.length → xI h 224 i = nI (l.getD i 0 / 10)) (f2 : ∀ i, i < l.length → xI h 225 i = nI (l.getD i 0 % 10)) (o : ∀ e, e ∈ l → e < 30) (hn : l.length ≤ 6) (hw : w < 3) (hc : c < 10) : X15_mend_B53 FU 195 (nI w) (nI c) (nI 0) h = if w * 10 + c ∈ l then X15_mend_B84 195 h else X15_mend_B96 195 (nI w) (nI c) h := by
  have loop : ∀ m k, k ≤ l.length → l.length - k < m → X15_mend_B53 m 195 (nI w) (nI c) (nI k) h = if anyF (fun i => l.getD i 0 == w * 10 + c) k l.length = true then X15_mend_B84 195 h else X15_mend_B96 195 (nI w) (nI c) h := by
    intro m
    induction m with
    | zero => intro k _ h; exact absurd h (Nat.not_lt_zero _)
    | succ m ih =>
      intro k hk hm
      rcases Nat.lt_or_ge k l.length with hk | hk
      · have hk' : ¬ l.length ≤ k := by omega
        have := o _ (getD_mem hk)
        rw [anyF_step hk]
        simp (disch := omega) only [X15_mend_B53, X15_mend_B90, LT_e, G_T, BN_ok, if_true, if_false, nI_add, pk_mul, G_gx, nI_cl, nI_lI, nI_tI, nI_eI, g.c195, fm, hk', g.r195_49, g.c224, g.z224, g.r195_50, g.c225, g.z225, f1, f2, ih (k + 1) (by omega) (by omega)]
        by_cases e : l.getD k 0 = w * 10 + c
        · have e1 : l.getD k 0 / 10 = w := by omega
          have e2 : l.getD k 0 % 10 = c := by omega
          rw [if_pos e1, if_pos e2, e]; simp
        · have : (l.getD k 0 == w * 10 + c) = false := by simpa using e
          rw [this, Bool.false_or]
          by_cases e1 : l.getD k 0 / 10 = w
          · rw [if_pos e1, if_neg (by omega)]
          · rw [if_neg e1]
      · have : k = l.length := by omega
        subst this
        rw [anyF_end (Nat.le_refl _)]
        simp (disch := omega) only [X15_mend_B53, LT_e, G_T, BN_ok, if_true, if_false, nI_add, pk_mul, G_gx, nI_cl, nI_lI, nI_tI, nI_eI, g.c195, fm, Nat.le_refl, eq_self, Bool.true_eq_false, Bool.false_eq_true, if_true, if_false]
  rw [loop FU 0 (Nat.zero_le _) (FU_gt (by omega)), anyF_0]
  by_cases e : w * 10 + c ∈ l
  · rw [if_pos e, if_pos (any_mem.mpr e)]
  · rw [if_neg e, if_neg (fun q => e (any_mem.mp q))]
theorem mend_cls {h : AH} {bo : Bool} {p : PR} {b m z : Nat} {l lm : List Nat} {s : LLn} {r : NN_} {lo lx : List Nat} (i : INV h bo p b m z l lm s r lo lx) (w : Nat) (hw : w < 3) (y : Int32) : X11_mend_f 1 (nI w) y h = X11_mend_B42 1 (nI w) y (xI h b (if w = 0 then 1 else 4)) h := by
  have hs := bs_c i
  unfold X11_mend_f
  rw [if_neg (nI_pos (by omega)), if_pos (by rw [nI_lI (by omega) (by omega)]; omega)]
  by_cases e : w = 0
  · rw [if_pos (by rw [e]; exact nI_0), G_t i.g.c1, i.g.r1_1, G_t i.g.c62, i.q.wb, G_t hs.c, if_pos e]
  · rw [if_neg (nI_ne0 (by omega) (by omega)), G_t i.g.c1, i.g.r1_1, G_t i.g.c62, i.q.wb, G_t hs.c, if_neg e]
theorem mend_chk {h : AH} {bo : Bool} {p : PR} {b m z : Nat} {l lm : List Nat} {s : LLn} {r : NN_} {lo lx : List Nat} (i : INV h bo p b m z l lm s r lo lx) (w : Nat) (hw : w < 3) (y : Int32) : (∃ j, bo = true ∧ j < 10 ∧ j < p.1 (if w = 0 then 1 else 4) 0 ∧ y = nI j ∧ ∀ k, SG k → Fz (SCR m) h (pI k 195 0 (nI 0)) → X15_mend_f 195 (nI w) y k = X15_mend_B39 195 (nI w) y (nI 1) (pI k 195 0 (nI 0))) ∨ ((y < 0 ∨ xI h b (if w = 0 then 1 else 4) ≤ y) ∧ ∀ k, SG k → Fz (SCR m) h (pI k 195 0 (nI 0)) → X15_mend_f 195 (nI w) y k = X15_mend_B39 195 (nI w) y (nI 0) (pI k 195 0 (nI 0))) := by
  by_cases e : w = 0
  · subst e
    rw [if_pos rfl]
    rcases chk_row i y with ⟨j, hb, hj, hy, q⟩ | ⟨n, q⟩
    · refine .inl ⟨j, hb, by have := (i.b.b1 hb).q.w.r; omega, hj, hy, fun k g F => ?_⟩
      unfold X15_mend_f
      rw [G_t g.c195, LT_e, if_pos nI_0, G_t g.i.c195, q _ F, BN_ok]
    · refine .inr ⟨n, fun k g F => ?_⟩
      unfold X15_mend_f
      rw [G_t g.c195, LT_e, if_pos nI_0, G_t g.i.c195, q _ F, BN_ok]
  · rw [if_neg e]
    have w0 : ¬ nI w = 0 := nI_ne0 (by omega) (by omega)
    have iny : ∀ k, X15_in_f (nI w) (nI 1) (nI 2) k = some (nI 1, k) := fun k => by
      unfold X15_in_f
      rw [if_neg (by rw [nI_tI (by omega) (by omega)]; omega), if_neg (by rw [nI_tI (by omega) (by omega)]; omega)]
    rcases chk_send i y with ⟨j, hb, hj, hy, q⟩ | ⟨n, q⟩
    · refine .inl ⟨j, hb, by have := (i.b.b1 hb).q.w.s; omega, hj, hy, fun k g F => ?_⟩
      unfold X15_mend_f
      rw [G_t g.c195, LT_e, if_neg w0, iny, BN_ok, if_neg (by decide), G_t g.i.c195, q _ F, BN_ok, if_neg (by decide)]
    · refine .inr ⟨n, fun k g F => ?_⟩
      unfold X15_mend_f
      rw [G_t g.c195, LT_e, if_neg w0, iny, BN_ok, if_neg (by decide), G_t g.i.c195, q _ F, BN_ok, if_pos nI_0]
      rfl
theorem isRow_y {h : AH} {p : PR} {b m j : Nat} (g : SG h) (B : Bk1 h p b m) (hj : j < p.1 1 0) : X15_isRow_f 195 (nI j) h = some (nI 1, h) := by
  have := B.q.w.r
  have := B.mq.s.lo
  unfold X15_isRow_f
  rw [G_t g.c195, B.mr, if_neg (by omega), if_neg (nI_pos (by omega)), G_t g.c195, G_t B.mq.s.c, B.mq.r, if_neg (by rw [nI_lI (by omega) (by omega)]; omega)]
theorem isSend_y {h : AH} {p : PR} {b m j : Nat} (g : SG h) (B : Bk1 h p b m) (hj : j < p.1 4 0) : X15_isSend_f 195 (nI j) h = some (nI 1, h) := by
  have := B.q.w.s
  have := B.mq.s.lo
  unfold X15_isSend_f
  rw [G_t g.c195, B.mr, if_neg (by omega), if_neg (nI_pos (by omega)), G_t g.c195, G_t B.mq.s.c, B.mq.sn, if_neg (by rw [nI_lI (by omega) (by omega)]; omega)]
theorem pr_mend {h : AH} {bo : Bool} {p : PR} {b m z : Nat} {l lm : List Nat} {s : LLn} {r : NN_} {lo lx : List Nat} (i : INV h bo p b m z l lm s r lo lx) (x y : Int32) : Pair (X11_mend_f 1 x y) (X15_mend_f 195 x y) h := by
  have gi := fun (v : Int32) => (i.g.i (a := 1) (k := 15) (v := v))
  have Fi := fun (v : Int32) => ((Fz.i scA).tr (Fz.i sc0) : Fz (SCR m) h (pI (pI h 1 15 v) 195 0 (nI 0)))
  have b39 : ∀ x y : Int32, X15_mend_B39 195 x y (nI 0) (pI (pI h 1 15 (nI 1)) 195 0 (nI 0)) = some (-1, pI (pI (pI (pI h 1 15 (nI 1)) 195 0 (nI 0)) 195 1 (nI 1)) 195 2 (-1)) := fun x y => by
    unfold X15_mend_B39
    rw [if_pos nI_0, G_t (gi _).i.c195, refused_m (gi _).i, BN_ok]
  by_cases hx : ∃ w, w < 3 ∧ x = nI w
  · obtain ⟨w, hw, rfl⟩ := hx
    rcases mend_chk i w hw y with ⟨j, hb, j10, hj, rfl, q⟩ | ⟨n, q⟩
    · subst hb
      have B := i.b.b1 rfl
      have hl := i.m.n.n
      have v30 : w * 10 + j < 30 := by omega
      have od : ∀ d, d ∈ lm → d < 1000 := fun d hd => by have := i.m.o d hd; omega
      have sum : nI w * nI 10 + nI j = nI (w * 10 + j) := by rw [pk_mul, nI_add]
      have cj : nI j < xI h b (if w = 0 then 1 else 4) := by
        rw [cnt_c i _ (by split <;> omega)]
        have := B.q.w.r
        have := B.q.w.s
        by_cases e : w = 0
        · rw [if_pos e] at hj ⊢
          rw [if_pos rfl, nI_tI (by omega) (by omega)]; exact hj
        · rw [if_neg e] at hj ⊢
          rw [if_pos rfl, nI_tI (by omega) (by omega)]; exact hj
      have cls : X11_mend_f 1 (nI w) (nI j) h = BN (X4_has_f 126 (nI (w * 10 + j)) h) fun v5 h4 => if v5 = 0 then (G (xc h4 1 = 11) <| G (xc h4 (xR h4 1 6) = 4) <| if (xI h4 (xR h4 1 6) 1) = (nI 6) then (G (xc h4 1 = 11) <| BN (X11_refuse_f 1 (nI 3) h4) fun v17 h16 => some (v17, h16)) else (G (xc h4 1 = 11) <| G (xc h4 (xR h4 1 6) = 4) <| BN (X4_append_f (xR h4 1 6) (nI (w * 10 + j)) h4) fun _ h10 => G (xc h10 1 = 11) <| G (xc h10 (xR h10 1 6) = 4) <| BN (X11_grant_f 1 ((xI h10 (xR h10 1 6) 1) - (nI 1)) h10) fun v14 h13 => some (v14, h13))) else (G (xc h4 1 = 11) <| BN (X11_refuse_f 1 (nI 5) h4) fun v20 h19 => some (v20, h19)) := by
        rw [mend_cls i w hw]
        unfold X11_mend_B42
        rw [if_neg (nI_pos (by omega)), if_pos cj, LT_e, G_t i.g.c1, i.g.r1_6, G_t i.m.n.c, sum]
      have ref : ∀ k, SG k → Fz (SCR m) h (pI k 195 0 (nI 0)) → X15_mend_f 195 (nI w) (nI j) k = if w * 10 + j ∈ lm then X15_mend_B84 195 (pI k 195 0 (nI 0)) else X15_mend_B96 195 (nI w) (nI j) (pI k 195 0 (nI 0)) := fun k g F => by
        have M := i.m.fz F (fun a k q => sM_ q)
        rw [q k g F]
        unfold X15_mend_B39
        rw [if_neg (by decide), mend_has g.i M.m M.f M.g M.o hl hw j10]
      by_cases hm : w * 10 + j ∈ lm
      · refine Pair.no i (nI 5) (-1) n4_5 ?_ ?_
        · rw [cls, has_ok i.m.n od (by omega), BN_ok, decide_eq_true hm, if_neg (by decide), G_t i.g.c1, refuse_c i.g, BN_ok]
        · rw [ref _ (gi _) (Fi _), if_pos hm]
          unfold X15_mend_B84
          rw [G_t (gi _).i.c195, refused_m (gi _).i, BN_ok]
      · by_cases h6 : lm.length = 6
        · refine Pair.no i (nI 3) (-1) n4_3 ?_ ?_
          · rw [cls, has_ok i.m.n od (by omega), BN_ok, decide_eq_false hm, if_pos (by decide), G_t i.g.c1, i.g.r1_6, G_t i.m.n.c, i.m.n.s, h6, if_pos rfl, G_t i.g.c1, refuse_c i.g, BN_ok]
          · have M := i.m.fz (Fi (nI 3)) (fun a k q => sM_ q)
            rw [ref _ (gi _) (Fi _), if_neg hm]
            unfold X15_mend_B96
            rw [G_t (gi _).i.c195, M.m, h6, if_pos rfl, G_t (gi _).i.c195, refused_m (gi _).i, BN_ok]
        · have s6 : ¬ nI lm.length = nI 6 := by rw [nI_eI (by omega) (by omega)]; exact h6
          obtain ⟨h1, e1, F1, n1⟩ := append_ok (v := w * 10 + j) i.m.n (by omega)
          have g1 := i.g.fr F1
          have ll : (lm ++ [w * 10 + j]).length = lm.length + 1 := by rw [List.length_append]; rfl
          have n1s := n1.s
          rw [ll] at n1s
          obtain ⟨hc, hce⟩ : ∃ hc, hc = pI h1 1 15 (nI 0) := ⟨_, rfl⟩
          have gc : SG hc := by rw [hce]; exact g1.i
          have F1z : Fz (fun a k => SCR m a k ∨ a = 126 ∨ a = 127) h (pI hc 195 0 (nI 0)) := by
            rw [hce]
            exact ((F1.q.f.mo (fun a k q => .inr (by omega))).tr (Fz.i (.inl scA))).tr (Fz.i (.inl sc0))
          have om : xI (pI hc 195 0 (nI 0)) 195 17 = nI lm.length := by rw [F1z.I (fun c => c.elim (sM_ (by omega)) (by omega))]; exact i.m.m
          have of1 : ∀ q, q < lm.length → xI (pI hc 195 0 (nI 0)) 224 q = nI (lm.getD q 0 / 10) := fun q hq => by rw [F1z.I (fun c => c.elim (sM_ (by omega)) (by omega))]; exact i.m.f q hq
          have of2 : ∀ q, q < lm.length → xI (pI hc 195 0 (nI 0)) 225 q = nI (lm.getD q 0 % 10) := fun q hq => by rw [F1z.I (fun c => c.elim (sM_ (by omega)) (by omega))]; exact i.m.g q hq
          obtain ⟨h2, h2e⟩ : ∃ h2, h2 = pI (pI (pI (pI (pI (pI hc 195 0 (nI 0)) 224 lm.length (nI w)) 225 lm.length (nI j)) 195 17 (nI (lm.length + 1))) 195 1 (nI 0)) 195 2 (-1) := ⟨_, rfl⟩
          have F : Fz (fun a k => SCR m a k ∨ a = 126 ∨ a = 127 ∨ a = 224 ∨ a = 225 ∨ a = 195 ∧ k = 17) h h2 := by
            rw [h2e]
            exact (((((F1z.mo (fun a k q => q.elim .inl (fun q => .inr (by omega)))).tr (Fz.i (.inr (by omega)))).tr (Fz.i (.inr (by omega)))).tr (Fz.i (.inr (by omega)))).tr (Fz.i (.inl sc1))).tr (Fz.i (.inl sc2))
          have Fx : Fz (fun a k => a = 1 ∨ a = 195 ∨ a = 224 ∨ a = 225) h1 h2 := by
            rw [h2e, hce]
            exact ((((((Fz.i (by omega)).tr (Fz.i (by omega))).tr (Fz.i (by omega))).tr (Fz.i (by omega))).tr (Fz.i (by omega))).tr (Fz.i (by omega))).tr (Fz.i (by omega))
          have sub : nI (lm.length + 1) - nI 1 = nI lm.length := by rw [pk_sub (by omega)]; rfl
          refine ⟨nI lm.length, hc, h2, ?_, gc.c195, ?_, ⟨true, p, b, m, z, l, lm ++ [w * 10 + j], s, r, lo, lx, ?_⟩, by rw [F.n]; omega, by rw [F.s]; omega⟩
          · rw [cls, has_ok i.m.n od (by omega), BN_ok, decide_eq_false hm, if_pos (by decide), G_t i.g.c1, i.g.r1_6, G_t i.m.n.c, i.m.n.s, if_neg s6, G_t i.g.c1, G_t i.m.n.c, e1, BN_ok, G_t g1.c1, g1.r1_6, G_t n1.c, n1s, sub, grant_c g1, BN_ok, hce]
          · have cl : (nI lm.length).toNatClampNeg = lm.length := nI_cl (by omega)
            have Bc := B.fz F1z (fun a k q c => c.elim (sB_ (by have := B.mq.s.lo; omega)) (by have := B.mq.s.lo; omega)) i.bb
            have b39' : X15_mend_f 195 (nI w) (nI j) hc = X15_mend_B39 195 (nI w) (nI j) (nI 1) (pI hc 195 0 (nI 0)) := by
              unfold X15_mend_f
              by_cases e : w = 0
              · rw [if_pos e] at hj
                rw [G_t gc.c195, LT_e, if_pos (by rw [e]; exact nI_0), G_t gc.i.c195, isRow_y gc.i Bc hj, BN_ok]
              · rw [if_neg e] at hj
                have iny : ∀ k, X15_in_f (nI w) (nI 1) (nI 2) k = some (nI 1, k) := fun k => by
                  unfold X15_in_f
                  rw [if_neg (by rw [nI_tI (by omega) (by omega)]; omega), if_neg (by rw [nI_tI (by omega) (by omega)]; omega)]
                rw [G_t gc.c195, LT_e, if_neg (nI_ne0 (by omega) (by omega)), iny, BN_ok, if_neg (by decide), G_t gc.i.c195, isSend_y gc.i Bc hj, BN_ok, if_neg (by decide)]
            rw [b39']
            unfold X15_mend_B39
            rw [if_neg (by decide), mend_has gc.i om of1 of2 i.m.o hl hw j10, if_neg hm]
            unfold X15_mend_B96
            rw [G_t gc.i.c195, om, if_neg s6, G_t gc.i.c195, gc.i.r195_49, G_t gc.i.c224, gc.i.z224, G_gx (by omega) (by omega), LT_e, cl, G_t gc.i.i.c195, gc.i.i.r195_50, G_t gc.i.i.c225, xI_ne (by omega), om, gc.i.i.z225, G_gx (by omega) (by omega), LT_e, cl, G_t gc.i.i.i.c195, xI_ne (by omega), xI_ne (by omega), om, nI_add, LT_e, G_t gc.i.i.i.i.c195, xI_self, sub, done_m gc.i.i.i.i, BN_ok, h2e]
          · refine ⟨i.g.fz F, i.t.fz F (fun a k q c => c.elim (sT_ q) (fun c => by omega)), i.q.fz F (fun a k q c => c.elim (sG_ q) (fun c => by omega)), i.b.fz F (fun a k q c => c.elim (sB_ q) (fun c => by omega)) i.bb, i.f.fz F (fun a k q c => c.elim (sF_ q) (fun c => by omega)), ⟨n1.fz Fx (by decide) (by omega) (fun k => by omega), ?_, fun q hq => ?_, fun q hq => ?_, fun d hd => ?_⟩, i.k.fz F (fun a k q c => c.elim (sK_ q) (fun c => by omega)), i.u.fz F (fun a k q c => c.elim (sU_ q) (fun c => by omega)), i.r.fz F (fun a k q c => c.elim (sR_ q) (fun c => by omega)), i.o.fz F (fun a k q c => c.elim (sO_ q) (fun c => by omega)), i.e.fz F (fun a k q c => c.elim (sE_ q) (fun c => by omega)), i.z.fz F (fun a k q c => c.elim (sZ_ q) (fun c => by omega)), (fun e => nomatch e), i.fm.fz F, ?_⟩
            · rw [ll, h2e, xI_ne (by omega), xI_ne (by omega), xI_self]
            · rw [ll] at hq
              rw [getD_app (by omega), h2e, xI_ne (by omega), xI_ne (by omega), xI_ne (by omega), xI_ne (by omega)]
              by_cases e : q < lm.length
              · rw [if_pos e, xI_ne (by omega)]; exact of1 q e
              · rw [if_neg e, show q = lm.length by omega, xI_self, show (w * 10 + j) / 10 = w by omega]
            · rw [ll] at hq
              rw [getD_app (by omega), h2e, xI_ne (by omega), xI_ne (by omega), xI_ne (by omega)]
              by_cases e : q < lm.length
              · rw [if_pos e, xI_ne (by omega), xI_ne (by omega)]; exact of2 q e
              · rw [if_neg e, show q = lm.length by omega, xI_self, show (w * 10 + j) % 10 = j by omega]
            · rcases List.mem_append.mp hd with hd | hd
              · exact i.m.o d hd
              · rw [List.mem_singleton.mp hd]; exact v30
            · rw [h2e]
              refine Sts_fin n4_0 ?_
              rw [xI_ne (by omega), xI_ne (by omega), xI_ne (by omega), xI_ne (by omega), hce, xI_self]
    · refine Pair.no i (nI 1) (-1) n4_1 ?_ ?_
      · have r1 : X11_mend_B52 1 h = some (-1, pI h 1 15 (nI 1)) := by
          unfold X11_mend_B52
          rw [G_t i.g.c1, refuse_c i.g, BN_ok]
        rw [mend_cls i w hw]
        unfold X11_mend_B42
        rw [r1]
        by_cases q0 : y < 0
        · rw [if_pos q0]
        · rw [if_neg q0, if_neg (Int32.not_lt.mpr (n.resolve_left q0))]
      · rw [q _ (gi _) (Fi _), b39]
  · have x0 : ¬ x = 0 := fun e => hx ⟨0, by decide, by rw [e]; exact nI_0.symm⟩
    refine Pair.no i (nI 1) (-1) n4_1 ?_ ?_
    · have r1 : X11_mend_B9 1 h = some (-1, pI h 1 15 (nI 1)) := by
        unfold X11_mend_B9
        rw [G_t i.g.c1, refuse_c i.g, BN_ok]
      unfold X11_mend_f
      rw [r1]
      by_cases q0 : x < 0
      · rw [if_pos q0]
      · rw [if_neg q0, if_neg (fun q => hx (by
          obtain ⟨j, hj, rfl⟩ := nI_of q0
          rw [nI_lI hj (by omega)] at q
          exact ⟨j, by omega, rfl⟩))]
    · have inn : X15_in_f x (nI 1) (nI 2) (pI (pI h 1 15 (nI 1)) 195 0 (nI 0)) = some (nI 0, pI (pI h 1 15 (nI 1)) 195 0 (nI 0)) := by
        rcases in_m (x := x) (a := 1) (c := 2) (h := pI (pI h 1 15 (nI 1)) 195 0 (nI 0)) (by omega) (by omega) with ⟨j, _, hj, e, _⟩ | ⟨_, q⟩
        · exact absurd ⟨j, by omega, e⟩ hx
        · exact q
      unfold X15_mend_f
      rw [G_t (gi _).c195, LT_e, if_neg x0, inn, BN_ok, if_pos nI_0]
      exact b39 _ _
