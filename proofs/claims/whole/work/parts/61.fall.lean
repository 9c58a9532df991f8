def hits (p : PR) (c : Nat) : Nat := if c = 0 ∨ c = 3 then p.1 4 0 else p.1 0 0
theorem hitBy_c {h : AH} {b c : Nat} (hs : BS h b) (hc : c < 4) : X0_hitBy_f b (nI c) h = some (if c = 0 ∨ c = 3 then xI h b 4 else xI h b 0, h) := by
  unfold X0_hitBy_f X0_hitBy_B9
  have : c = 0 ∨ c = 1 ∨ c = 2 ∨ c = 3 := by omega
  rcases this with rfl | rfl | rfl | rfl
  · rw [if_pos nI_0, G_t hs.c]; rfl
  · rw [if_neg (by decide), if_neg (by decide), G_t hs.c]; rfl
  · rw [if_neg (by decide), if_neg (by decide), G_t hs.c]; rfl
  · rw [if_neg (by decide), if_pos rfl, G_t hs.c]; rfl
theorem things_m {h : AH} {b c : Nat} {p : PR} (M : MoX h b p) (hc : c < 4) : X15_things_f 195 (nI c) h = some (nI (hits p c), h) := by
  unfold X15_things_f X15_things_B9 hits
  have : c = 0 ∨ c = 1 ∨ c = 2 ∨ c = 3 := by omega
  rcases this with rfl | rfl | rfl | rfl
  · rw [if_pos nI_0, G_t M.s.c195, M.r4, G_t M.q.s.c, M.q.sn]; rfl
  · rw [if_neg (by decide), if_neg (by decide), G_t M.s.c195, M.r4, G_t M.q.s.c, M.q.m]; rfl
  · rw [if_neg (by decide), if_neg (by decide), G_t M.s.c195, M.r4, G_t M.q.s.c, M.q.m]; rfl
  · rw [if_neg (by decide), if_pos rfl, G_t M.s.c195, M.r4, G_t M.q.s.c, M.q.sn]; rfl
theorem OKf_lt {d : Nat} (o : OKf d) : d < 1000 := by have := o.1; omega
theorem fall_has {h : AH} {l : List Nat} {d : Nat} (g : SG h) (fm : xI h 195 16 = nI l.length) (ff : mL h 199 0 l) (fo : ∀ e, e ∈ l → OKf e) (hn : l.length ≤ 6) (hd : d < 1000) : X15_fall_B76 FU 195 (nI d) (nI 0) h = if d ∈ l then X15_fall_B97 195 h else X15_fall_B109 195 (nI d) h := by
  have od : ∀ k, k < l.length → l.getD k 0 < 1000 := fun k hk => OKf_lt (fo _ (by rw [List.getD_eq_getElem?_getD, List.getElem?_eq_getElem hk]; exact List.getElem_mem hk))
  have loop : ∀ m k, k ≤ l.length → l.length - k < m → X15_fall_B76 m 195 (nI d) (nI k) h = if anyF (fun i => l.getD i 0 == d) k l.length = true then X15_fall_B97 195 h else X15_fall_B109 195 (nI d) h := by
    intro m
    induction m with
    | zero => intro k _ h; exact absurd h (Nat.not_lt_zero _)
    | succ m ih =>
      intro k hk hm
      rcases Nat.lt_or_ge k l.length with hk | hk
      · have hk' : ¬ l.length ≤ k := by omega
        have := od k hk
        have fk := ff k hk
        rw [Nat.zero_add] at fk
        rw [anyF_step hk]
        simp (disch := omega) only [X15_fall_B76, LT_e, G_T, BN_ok, if_true, if_false, nI_add, pk_mul, G_gx, nI_cl, nI_lI, nI_tI, nI_eI, g.c195, fm, hk', g.r195_20, g.c199, g.z199, fk, ih (k + 1) (by omega) (by omega)]
        by_cases e : l.getD k 0 = d
        · rw [if_pos e, e]; simp
        · have : (l.getD k 0 == d) = false := by simpa using e
          rw [if_neg e, this]; simp
      · have : k = l.length := by omega
        subst this
        rw [anyF_end (Nat.le_refl _)]
        simp (disch := omega) only [X15_fall_B76, LT_e, G_T, BN_ok, if_true, if_false, nI_add, pk_mul, G_gx, nI_cl, nI_lI, nI_tI, nI_eI, g.c195, fm, Nat.le_refl, eq_self, Bool.true_eq_false, Bool.false_eq_true, if_true, if_false]
  rw [loop FU 0 (Nat.zero_le _) (FU_gt (by omega)), anyF_0]
  have : ((List.range l.length).any fun i => l.getD i 0 == d) = true ↔ d ∈ l := by
    rw [List.any_eq_true]
    constructor
    · rintro ⟨i, hi, e⟩
      have hi := List.mem_range.mp hi
      rw [beq_iff_eq] at e
      rw [← e, List.getD_eq_getElem?_getD, List.getElem?_eq_getElem hi]; exact List.getElem_mem hi
    · intro q
      obtain ⟨i, hi, e⟩ := List.getElem_of_mem q
      exact ⟨i, List.mem_range.mpr hi, by rw [List.getD_eq_getElem?_getD, List.getElem?_eq_getElem hi]; simpa using e⟩
  by_cases q : d ∈ l
  · rw [if_pos (this.mpr q), if_pos q]
  · rw [if_neg (fun c => q (this.mp c)), if_neg q]
/-- a number goes into the reference's falls -/
theorem fall_ins {h : AH} {l : List Nat} {d : Nat} (g : SG h) (fm : xI h 195 16 = nI l.length) (ff : mL h 199 0 l) (ol : ∀ e, e ∈ l → OKf e) (hl : l.length < 6) (hd : d < 1000) : ∃ h', X15_fall_B109 195 (nI d) h = some (nI (l.length + 1), pI (pI h' 195 1 (nI 0)) 195 2 (-1)) ∧ Fz (fun a k => a = 199 ∨ a = 195 ∧ k = 16) h h' ∧ xI h' 195 16 = nI (l.length + 1) ∧ mL h' 199 0 (insL l d) := by
  have od : ∀ k, k < l.length → l.getD k 0 < 1000 := fun k hk => OKf_lt (ol _ (by rw [List.getD_eq_getElem?_getD, List.getElem?_eq_getElem hk]; exact List.getElem_mem hk))
  have loop : ∀ i m h', i < m → i ≤ l.length → Fr (fun x => x = 199) h h' → (∀ j, j < i → xI h' 199 j = nI (l.getD j 0)) → (∀ j, i < j → j ≤ l.length → xI h' 199 j = nI (l.getD (j - 1) 0)) → ∃ h2, X15_fall_B130 m 195 (nI d) (nI i) h' = X15_fall_B171 195 (nI d) (nI (insP l d i)) h2 ∧ Fr (fun x => x = 199) h h2 ∧ (∀ j, j < insP l d i → xI h2 199 j = nI (l.getD j 0)) ∧ (∀ j, insP l d i < j → j ≤ l.length → xI h2 199 j = nI (l.getD (j - 1) 0)) := by
    intro i
    induction i with
    | zero =>
      intro m h' hm _ F lo hi
      obtain ⟨m, rfl⟩ : ∃ k, m = k + 1 := ⟨m - 1, by omega⟩
      refine ⟨h', ?_, F, lo, hi⟩
      rw [X15_fall_B130, if_pos (by decide)]; rfl
    | succ i ih =>
      intro m h' hm hl' F lo hi
      obtain ⟨m, rfl⟩ : ∃ k, m = k + 1 := ⟨m - 1, by omega⟩
      have g' := g.fr F
      have e1 : nI (i + 1) - nI 1 = nI i := by rw [pk_sub (by omega)]; rfl
      have n0 : ¬ i + 1 ≤ 0 := by omega
      have := od i (by omega)
      by_cases q : l.getD i 0 ≤ d
      · have e2 : insP l d (i + 1) = i + 1 := by unfold insP; rw [if_pos q]
        rw [e2]
        refine ⟨h', ?_, F, lo, hi⟩
        simp (disch := omega) only [X15_fall_B130, nI_z, LT_e, G_T, BN_ok, if_true, if_false, nI_add, pk_mul, G_gx, nI_cl, nI_lI, nI_tI, nI_eI, n0, g'.c195, g'.r195_20, g'.c199, g'.z199, e1, lo i (by omega), q]
      · have e2 : insP l d (i + 1) = insP l d i := by rw [insP, if_neg q]
        rw [e2]
        obtain ⟨h2, e3, F2, lo2, hi2⟩ := ih m (pI h' 199 (i + 1) (nI (l.getD i 0))) (by omega) (by omega) (F.tr (Fr.i rfl)) (fun j hj => by rw [xI_ne (by omega)]; exact lo j (by omega)) (fun j hj hj2 => by
          by_cases e : j = i + 1
          · subst e; rw [xI_self]; rfl
          · rw [xI_ne (by omega)]; exact hi j (by omega) hj2)
        refine ⟨h2, ?_, F2, lo2, hi2⟩
        have e4 : nI (i + 1) + -1 = nI i := pk_m1 i
        simp (disch := omega) only [X15_fall_B130, nI_z, LT_e, G_T, BN_ok, if_true, if_false, nI_add, pk_mul, G_gx, nI_cl, nI_lI, nI_tI, nI_eI, n0, g'.c195, g'.r195_20, g'.c199, g'.z199, e1, lo i (by omega), q, e4]
        exact e3
  obtain ⟨h2, e1, F, lo, hi⟩ := loop l.length FU h (FU_gt (by omega)) (Nat.le_refl _) Fr.rf (fun j hj => by have := ff j hj; rw [Nat.zero_add] at this; exact this) (fun j h1 h2 => by omega)
  have hp := insP_le (l := l) (v := d) l.length
  have g2 := g.fr F
  have s2 : xI h2 195 16 = nI l.length := by rw [F.I _ (by decide)]; exact fm
  have F2 : Fz (fun a k => a = 199 ∨ a = 195 ∧ k = 16) h (pI (pI h2 199 (insP l d l.length) (nI d)) 195 16 (nI (l.length + 1))) := ((F.q.f.mo (fun a k q => .inl q)).tr (Fz.i (.inl rfl))).tr (Fz.i (.inr ⟨rfl, rfl⟩))
  refine ⟨_, ?_, F2, xI_self, fun j hj => ?_⟩
  · unfold X15_fall_B109
    rw [G_t g.c195, fm, if_neg (by rw [nI_eI (by omega) (by omega)]; omega), G_t g.c195, LT_e, e1]
    unfold X15_fall_B171
    rw [G_t g2.c195, g2.r195_20, G_t g2.c199, g2.z199, G_gx (by omega) (by omega), nI_cl (by omega), LT_e, G_t g2.i.c195, xI_ne (by omega), s2, nI_add, LT_e, G_t g2.i.i.c195, xI_self, done_m g2.i.i, BN_ok]
  · rw [insL_len] at hj
    rw [Nat.zero_add, xI_ne (by omega), insL_get]
    by_cases h1 : j < insP l d l.length
    · rw [if_pos h1, xI_ne (by omega)]; exact lo j h1
    · rw [if_neg h1]
      by_cases h2 : j = insP l d l.length
      · rw [if_pos h2, h2, xI_self]
      · rw [if_neg h2, xI_ne (by omega)]; exact hi j (by omega) (by omega)
theorem pr_fall {h : AH} {bo : Bool} {p : PR} {b m z : Nat} {l lm : List Nat} {s : LLn} {r : NN_} {lo lx : List Nat} (i : INV h bo p b m z l lm s r lo lx) (x y t : Int32) : Pair (X11_fall_f 1 x y t) (X15_fall_f 195 x y t) h := by
  have gi := fun (v : Int32) => (i.g.i (a := 1) (k := 15) (v := v))
  have hs := bs_c i
  have r1 : X11_fall_B28 1 h = some (-1, pI h 1 15 (nI 1)) := by
    unfold X11_fall_B28
    rw [G_t i.g.c1, refuse_c i.g, BN_ok]
  have r2 : X11_fall_B49 1 h = some (-1, pI h 1 15 (nI 2)) := by
    unfold X11_fall_B49
    rw [G_t i.g.c1, refuse_c i.g, BN_ok]
  have rm : X15_fall_B34 195 (pI (pI h 1 15 (nI 1)) 195 0 (nI 0)) = some (-1, pI (pI (pI (pI h 1 15 (nI 1)) 195 0 (nI 0)) 195 1 (nI 1)) 195 2 (-1)) := by
    unfold X15_fall_B34
    rw [G_t (gi _).i.c195, refused_m (gi _).i, BN_ok]
  -- kind
  by_cases hk : ∃ c, c < 4 ∧ x = nI c
  · obtain ⟨c, hc, rfl⟩ := hk
    have k1 : ¬ nI c < 0 := nI_pos (by omega)
    have k2 : ¬ nI 4 ≤ nI c := by rw [nI_lI (by omega) (by omega)]; omega
    have ein : ∀ k, X15_in_f (nI c) (nI 0) (nI 3) k = some (nI 1, k) := fun k => by
      unfold X15_in_f
      rw [if_neg (by rw [nI_tI (by omega) (by omega)]; omega), if_neg (by rw [nI_tI (by omega) (by omega)]; omega)]
    have hh : (if c = 0 ∨ c = 3 then xI h b 4 else xI h b 0) = nI (if bo then hits p c else 0) := by
      rw [cnt_c i 4 (by decide), cnt_c i 0 (by decide)]
      unfold hits
      cases bo <;> split <;> rfl
    by_cases hw : bo = true ∧ ∃ w, w < hits p c ∧ y = nI w
    · obtain ⟨rfl, w, hw, rfl⟩ := hw
      have hr := mr_ne i rfl
      have B := i.b.b1 rfl
      have ws := B.q.w.s
      have wm := B.q.w.m
      have hx := B.x
      have hn1 := B.n
      have h6 : hits p c ≤ 6 ∧ (hits p c ≤ 4 ∨ c = 0 ∨ c = 3) := by unfold hits; split <;> omega
      have y1 : ¬ nI w < 0 := nI_pos (by omega)
      have y2 : nI w < nI (hits p c) := by rw [nI_tI (by omega) (by omega)]; exact hw
      have kl : ∀ k, Fz (SCR m) h k → xI k 195 14 - nI 1 = nI (pl p - 1) := fun k F => by rw [((i.b.fz F (fun a k q => sB_ q) i.bb).b1 rfl).l, pk_sub (by omega)]
      by_cases ht : ∃ u, u < pl p ∧ t = nI u
      · obtain ⟨u, hu, rfl⟩ := ht
        have t1 : ¬ nI u < 0 := nI_pos (by omega)
        have t2 : nI u < nI (pl p) := by rw [nI_tI (by omega) (by omega)]; exact hu
        have d1 : nI 100 * nI c + nI 10 * nI w + nI u = nI (100 * c + 10 * w + u) := by rw [pk_mul, pk_mul, nI_add, nI_add]
        have ok : OKf (100 * c + 10 * w + u) := ⟨by omega, by omega, by omega⟩
        have dl := OKf_lt ok
        have tin : ∀ k, X15_in_f (nI u) (nI 0) (nI (pl p - 1)) k = some (nI 1, k) := fun k => by
          unfold X15_in_f
          rw [if_neg (by rw [nI_tI (by omega) (by omega)]; omega), if_neg (by rw [nI_tI (by omega) (by omega)]; omega)]
        have od : ∀ d, d ∈ l → d < 1000 := fun d hd => OKf_lt (i.f.o d hd)
        -- the reference up to its falls
        have ref : ∀ k, SG k → MoX (pI k 195 0 (nI 0)) m p → X15_fall_f 195 (nI c) (nI w) (nI u) k = X15_fall_B76 FU 195 (nI (100 * c + 10 * w + u)) (nI 0) (pI k 195 0 (nI 0)) := by
          intro k gk M
          have gg := gk.i (a := 195) (k := 0) (v := nI 0)
          have hr2 : ¬ xR (pI k 195 0 (nI 0)) 195 4 = 0 := by rw [M.r4]; have := M.q.s.lo; omega
          have kl2 : xI (pI k 195 0 (nI 0)) 195 14 - nI 1 = nI (pl p - 1) := by rw [M.l, pk_sub (by omega)]
          unfold X15_fall_f
          rw [G_t gk.c195, LT_e, G_t gg.c195, if_neg hr2, ein, BN_ok, if_neg (by decide), if_neg y1, G_t gg.c195, things_m M hc, BN_ok, if_pos y2, G_t gg.c195, kl2, tin, BN_ok, if_neg (by decide), LT_e, d1]
        have cls : X11_fall_f 1 (nI c) (nI w) (nI u) h = BN (X4_has_f 120 (nI (100 * c + 10 * w + u)) h) fun v13 h12 => if v13 = 0 then (G (xc h12 1 = 11) <| G (xc h12 (xR h12 1 3) = 4) <| if (xI h12 (xR h12 1 3) 1) = (nI 6) then (G (xc h12 1 = 11) <| BN (X11_refuse_f 1 (nI 3) h12) fun v25 h24 => some (v25, h24)) else (G (xc h12 1 = 11) <| G (xc h12 (xR h12 1 3) = 4) <| BN (X4_insert_f (xR h12 1 3) (nI (100 * c + 10 * w + u)) h12) fun _ h18 => G (xc h18 1 = 11) <| G (xc h18 (xR h18 1 3) = 4) <| BN (X11_grant_f 1 (xI h18 (xR h18 1 3) 1) h18) fun v22 h21 => some (v22, h21))) else (G (xc h12 1 = 11) <| BN (X11_refuse_f 1 (nI 5) h12) fun v28 h27 => some (v28, h27)) := by
          unfold X11_fall_f X11_numberOf_f
          rw [if_neg k1, if_neg k2, if_neg y1, G_t i.g.c1, i.g.r1_1, G_t i.g.c62, i.q.wb, G_t hs.c, hitBy_c hs hc, BN_ok, hh]
          show (if nI w < nI (hits p c) then _ else _) = _
          rw [if_pos y2, if_neg t1, G_t i.g.c1, i.g.r1_1, G_t i.g.c62, B.w.l, if_pos t2, d1, BN_ok, G_t i.g.c1, i.g.r1_3, G_t i.g.c120]
        by_cases hm : 100 * c + 10 * w + u ∈ l
        · refine Pair.no i (nI 5) (-1) n4_5 ?_ ?_
          · rw [cls, has_ok i.f.n od dl, BN_ok, decide_eq_true hm, if_neg (by decide), G_t i.g.c1, refuse_c i.g, BN_ok]
          · have F := ((Fz.i scA).tr (Fz.i sc0) : Fz (SCR m) h (pI (pI h 1 15 (nI 5)) 195 0 (nI 0)))
            have f := i.f.fz F (fun a k q => sF_ q)
            rw [ref _ (gi _) (((i.b.fz F (fun a k q => sB_ q) i.bb).b1 rfl).mox (gi _).i), fall_has (gi _).i f.m f.f f.o f.n.n dl, if_pos hm]
            unfold X15_fall_B97
            rw [G_t (gi _).i.c195, refused_m (gi _).i, BN_ok]
        · by_cases h6' : l.length = 6
          · refine Pair.no i (nI 3) (-1) n4_3 ?_ ?_
            · rw [cls, has_ok i.f.n od dl, BN_ok, decide_eq_false hm, if_pos (by decide), G_t i.g.c1, i.g.r1_3, G_t i.g.c120, i.f.n.s, h6', if_pos rfl, G_t i.g.c1, refuse_c i.g, BN_ok]
            · have F := ((Fz.i scA).tr (Fz.i sc0) : Fz (SCR m) h (pI (pI h 1 15 (nI 3)) 195 0 (nI 0)))
              have f := i.f.fz F (fun a k q => sF_ q)
              rw [ref _ (gi _) (((i.b.fz F (fun a k q => sB_ q) i.bb).b1 rfl).mox (gi _).i), fall_has (gi _).i f.m f.f f.o f.n.n dl, if_neg hm]
              unfold X15_fall_B109
              rw [G_t (gi _).i.c195, f.m, h6', if_pos rfl, G_t (gi _).i.c195, refused_m (gi _).i, BN_ok]
          · have hl6 := i.f.n.n
            obtain ⟨h1, e1, F1, n1⟩ := insert_ok i.f.n od dl (by omega)
            have g1 := i.g.fr F1
            have F1z : Fz (fun a k => SCR m a k ∨ a = 120 ∨ a = 121 ∨ a = 199 ∨ a = 195 ∧ k = 16) h (pI h1 1 15 (nI 0)) := (F1.q.f.mo (fun a k q => .inr (by omega))).tr (Fz.i (.inl scA))
            have Fk : Fz (fun a k => SCR m a k ∨ a = 120 ∨ a = 121 ∨ a = 199 ∨ a = 195 ∧ k = 16) h (pI (pI h1 1 15 (nI 0)) 195 0 (nI 0)) := F1z.tr (Fz.i (.inl sc0))
            have gk := i.g.fz Fk
            -- the reference's falls are the old ones yet
            have om : xI (pI (pI h1 1 15 (nI 0)) 195 0 (nI 0)) 195 16 = nI l.length := by rw [xI_ne (by omega), xI_ne (by omega), F1.I _ (by decide)]; exact i.f.m
            have ofl : mL (pI (pI h1 1 15 (nI 0)) 195 0 (nI 0)) 199 0 l := fun j hj => by rw [xI_ne (by omega), xI_ne (by omega), F1.I _ (by decide)]; exact i.f.f j hj
            obtain ⟨k2, e2, F2, m2, f2⟩ := fall_ins gk om ofl i.f.o (by omega) dl
            obtain ⟨h2, h2e⟩ : ∃ h2, h2 = pI (pI k2 195 1 (nI 0)) 195 2 (-1) := ⟨_, rfl⟩
            have F : Fz (fun a k => SCR m a k ∨ a = 120 ∨ a = 121 ∨ a = 199 ∨ a = 195 ∧ k = 16) h h2 := by
              rw [h2e]
              exact ((Fk.tr (F2.mo (fun a k q => .inr (by omega)))).tr (Fz.i (.inl sc1))).tr (Fz.i (.inl sc2))
            have n2 : IsN h2 120 6 (insL l (100 * c + 10 * w + u)) := by
              have Fx : Fz (fun a k => a = 1 ∨ a = 195 ∨ a = 199) h1 h2 := by
                rw [h2e]
                exact ((((Fz.i (.inl rfl)).tr (Fz.i (.inr (.inl rfl)))).tr (F2.mo (fun a k q => by omega))).tr (Fz.i (.inr (.inl rfl)))).tr (Fz.i (.inr (.inl rfl)))
              exact n1.fz Fx (by decide) (by decide) (fun k => by decide)
            refine ⟨nI (l.length + 1), pI h1 1 15 (nI 0), h2, ?_, g1.i.c195, ?_, ⟨true, p, b, m, z, insL l (100 * c + 10 * w + u), lm, s, r, lo, lx, ?_⟩, by rw [F.n]; omega, by rw [F.s]; omega⟩
            · rw [cls, has_ok i.f.n od dl, BN_ok, decide_eq_false hm, if_pos (by decide), G_t i.g.c1, i.g.r1_3, G_t i.g.c120, i.f.n.s, if_neg (by rw [nI_eI (by omega) (by omega)]; exact h6'), G_t i.g.c1, G_t i.g.c120, e1, BN_ok, G_t g1.c1, g1.r1_3, G_t g1.c120, n1.s, insL_len, grant_c g1, BN_ok]
            · rw [ref _ g1.i (((i.b.fz Fk (fun a k q c => c.elim (sB_ q) (fun c => by omega)) i.bb).b1 rfl).mox gk), fall_has gk om ofl i.f.o hl6 dl, if_neg hm, e2, h2e]
            · refine ⟨i.g.fz F, i.t.fz F (fun a k q c => c.elim (sT_ q) (fun c => by omega)), i.q.fz F (fun a k q c => c.elim (sG_ q) (fun c => by omega)), i.b.fz F (fun a k q c => c.elim (sB_ q) (fun c => by omega)) i.bb, ⟨n2, by rw [h2e, xI_ne (by omega), xI_ne (by omega), m2, insL_len], by rw [h2e]; exact (f2.fz (Fz.i (A := fun a _ => a = 195) rfl) (by intro k; decide)).fz (Fz.i (A := fun a _ => a = 195) rfl) (by intro k; decide), fun d hd => (insL_mem hd).elim (fun e => e ▸ ok) (i.f.o d)⟩, i.m.fz F (fun a k q c => c.elim (sM_ q) (fun c => by omega)), i.k.fz F (fun a k q c => c.elim (sK_ q) (fun c => by omega)), i.u.fz F (fun a k q c => c.elim (sU_ q) (fun c => by omega)), i.r.fz F (fun a k q c => c.elim (sR_ q) (fun c => by omega)), i.o.fz F (fun a k q c => c.elim (sO_ q) (fun c => by omega)), i.e.fz F (fun a k q c => c.elim (sE_ q) (fun c => by omega)), i.z.fz F (fun a k q c => c.elim (sZ_ q) (fun c => by omega)), (fun e => nomatch e), i.fm.fz F, ?_⟩
              rw [h2e]
              refine Sts_fin n4_0 ?_
              rw [F2.I (by omega), xI_ne (by omega), xI_self]
      · have bad : (t < 0 ∨ ¬ t < nI (pl p)) := by
          rcases pk_ix t (n := pl p) (by omega) with q | q | ⟨u, hu', rfl⟩
          · exact .inl q
          · exact .inr (Int32.not_lt.mpr q)
          · exact absurd ⟨u, hu', rfl⟩ ht
        refine Pair.no i (nI 2) (-1) n4_2 ?_ ?_
        · unfold X11_fall_f
          rw [if_neg k1, if_neg k2, if_neg y1, G_t i.g.c1, i.g.r1_1, G_t i.g.c62, i.q.wb, G_t hs.c, hitBy_c hs hc, BN_ok, hh]
          show (if nI w < nI (hits p c) then _ else _) = _
          rw [if_pos y2, G_t i.g.c1, i.g.r1_1, G_t i.g.c62, B.w.l, r2]
          by_cases q0 : t < 0
          · rw [if_pos q0]
          · rw [if_neg q0, if_neg (bad.resolve_left q0)]
        · have tin : ∀ k, X15_in_f t (nI 0) (nI (pl p - 1)) k = some (nI 0, k) := by
            intro k
            unfold X15_in_f
            by_cases q0 : t < 0
            · rw [if_pos (show t < nI 0 from q0)]
            · obtain ⟨j, hj, rfl⟩ := nI_of q0
              have := bad.resolve_left q0
              rw [nI_tI hj (by omega)] at this
              rw [if_neg (show ¬ nI j < nI 0 from q0), if_pos (by rw [nI_tI (by omega) hj]; omega)]
          have F := ((Fz.i scA).tr (Fz.i sc0) : Fz (SCR m) h (pI (pI h 1 15 (nI 2)) 195 0 (nI 0)))
          have M := ((i.b.fz F (fun a k q => sB_ q) i.bb).b1 rfl).mox (gi _).i
          unfold X15_fall_f
          rw [G_t (gi _).c195, LT_e, G_t (gi _).i.c195, xR_pI, xR_pI, if_neg hr, ein, BN_ok, if_neg (by decide), if_neg y1, G_t (gi _).i.c195, things_m M hc, BN_ok, if_pos y2, G_t (gi _).i.c195, kl _ F, tin, BN_ok, if_pos nI_0, G_t (gi _).i.c195, refused_m (gi _).i, BN_ok]
    · refine Pair.no i (nI 1) (-1) n4_1 ?_ ?_
      · unfold X11_fall_f
        rw [if_neg k1, if_neg k2, r1, G_t i.g.c1, i.g.r1_1, G_t i.g.c62, i.q.wb, G_t hs.c, hitBy_c hs hc, BN_ok, hh]
        by_cases q0 : y < 0
        · rw [if_pos q0]
        · obtain ⟨j, hj, rfl⟩ := nI_of q0
          rw [if_neg q0, if_neg (fun q => hw (by
            cases bo
            · exact absurd q (nI_nlt (Nat.zero_le _) hj)
            · have hb : hits p c < 1000 := by
                have := (i.b.b1 rfl).q.w.s
                have := (i.b.b1 rfl).q.w.m
                unfold hits; split <;> omega
              have q : nI j < nI (hits p c) := q
              rw [nI_tI hj (by omega)] at q
              exact ⟨rfl, j, q, rfl⟩)), r1]
      · unfold X15_fall_f
        rw [G_t (gi _).c195, LT_e, G_t (gi _).i.c195, xR_pI, xR_pI]
        cases bo
        · rw [if_pos (i.b.b0 rfl).mr, rm]
        · have hr := mr_ne i rfl
          have F := ((Fz.i scA).tr (Fz.i sc0) : Fz (SCR m) h (pI (pI h 1 15 (nI 1)) 195 0 (nI 0)))
          have M := ((i.b.fz F (fun a k q => sB_ q) i.bb).b1 rfl).mox (gi _).i
          rw [if_neg hr, ein, BN_ok, if_neg (by decide), rm]
          by_cases q0 : y < 0
          · rw [if_pos q0]
          · obtain ⟨j, hj, rfl⟩ := nI_of q0
            rw [if_neg q0, G_t (gi _).i.c195, things_m M hc, BN_ok, if_neg (fun q => hw (by
              have hb : hits p c < 1000 := by
                have := (i.b.b1 rfl).q.w.s
                have := (i.b.b1 rfl).q.w.m
                unfold hits; split <;> omega
              rw [nI_tI hj (by omega)] at q
              exact ⟨rfl, j, q, rfl⟩)), rm]
  · have bad : x < 0 ∨ nI 4 ≤ x := by
      rcases pk_ix x (n := 4) (by omega) with q | q | ⟨u, hu', rfl⟩
      · exact .inl q
      · exact .inr q
      · exact absurd ⟨u, hu', rfl⟩ hk
    refine Pair.no i (nI 1) (-1) n4_1 ?_ ?_
    · unfold X11_fall_f
      rw [r1]
      by_cases q0 : x < 0
      · rw [if_pos q0]
      · rw [if_neg q0, if_pos (bad.resolve_left q0)]
    · have ein : ∀ k, X15_in_f x (nI 0) (nI 3) k = some (nI 0, k) := by
        intro k
        unfold X15_in_f
        by_cases q0 : x < 0
        · rw [if_pos (show x < nI 0 from q0)]
        · obtain ⟨j, hj, rfl⟩ := nI_of q0
          have := bad.resolve_left q0
          rw [nI_lI (by omega) hj] at this
          rw [if_neg (show ¬ nI j < nI 0 from q0), if_pos (by rw [nI_tI (by omega) hj]; omega)]
      unfold X15_fall_f
      rw [G_t (gi _).c195, LT_e, G_t (gi _).i.c195, xR_pI, xR_pI, ein, BN_ok, if_pos nI_0, rm]
      split <;> rfl
