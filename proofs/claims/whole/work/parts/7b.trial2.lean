theorem alS_take {p : PR} {fs : LLn} {l : List Nat} {i : Nat} (hi : i < fs.length) : alS p (fs.take (i + 1)) l = (alS p (fs.take i) l && spo p (flOf (fs.getD i [])) (flOf l)) := by
  have : fs.take (i + 1) = fs.take i ++ [fs.getD i []] := by
    rw [List.take_add_one, List.getElem?_eq_getElem hi, List.getD_eq_getElem?_getD, List.getElem?_eq_getElem hi]; rfl
  rw [this, alS_app]
theorem alS_mono {p : PR} {fs : LLn} {l : List Nat} {i : Nat} (h : alS p (fs.take i) l = false) : alS p fs l = false := by
  cases q : alS p fs l
  · rfl
  · unfold alS at *
    rw [List.all_eq_true] at q
    have : (fs.take i).all (fun f => spo p (flOf f) (flOf l)) = true := List.all_eq_true.mpr (fun f hf => q f (List.mem_of_mem_take hf))
    rw [this] at h; exact nomatch h
theorem bundle_c {h0 h : AH} {b m n s d base runs : Nat} {p : PR} {r : NN_} {a : List Nat} {fs : LLn} (N120 : a.length ≤ 120) (ao : ∀ y, y ∈ a → OKf y) (hr : runs ≤ 100) (hn : n ≤ runs) (X : CtX h0 h b m p r fs n []) (B : BuS h a (r 0 + r 1 + r 2 + r 3) s d base) : ∃ h', X9_searchBundle_f 145 62 (nI runs) h = some (hwV (trL p runs fs n (seg a r s (d * 128 + base) 64)).2.2.1, h') ∧ CtX h0 h' b m p r (trL p runs fs n (seg a r s (d * 128 + base) 64)).1 (trL p runs fs n (seg a r s (d * 128 + base) 64)).2.1 (trL p runs fs n (seg a r s (d * 128 + base) 64)).2.2.2 ∧ BuS h' a (r 0 + r 1 + r 2 + r 3) s d base := by
  obtain ⟨h1, e1, F1, B1, v1⟩ := spread_c X.c N120 ao B
  have X1 : CtX h0 h1 b m p r fs n [] := X.fq F1.q (fun a c => by unfold SpA at c; omega)
  have N1 : LnS h1 a r s (d * 128 + base) := fun j hj hp => (v1 j hj).2 hp
  have l101 := X.ln
  have n100 := X.n1
  have loop : ∀ k i fu left (h : AH), i + k = fs.length → k < fu → CtX h0 h b m p r fs n [] → BuS h a (r 0 + r 1 + r 2 + r 3) s d base → LnS h a r s (d * 128 + base) → (∀ j, j < 64 → tl left j = (PS a r s (d * 128 + base + j) && alS p (fs.take i) (sL a s (d * 128 + base + j)))) → ∃ left' h', X9_searchBundle_B22 fu 145 62 (nI runs) left (nI i) h = X9_searchBundle_B64 145 62 (nI runs) left' h' ∧ CtX h0 h' b m p r fs n [] ∧ BuS h' a (r 0 + r 1 + r 2 + r 3) s d base ∧ LnS h' a r s (d * 128 + base) ∧ ∀ j, j < 64 → tl left' j = (PS a r s (d * 128 + base + j) && alS p fs (sL a s (d * 128 + base + j))) := by
    intro k
    induction k with
    | zero =>
      intro i fu left h hi hf X B N bits
      obtain ⟨fu, rfl⟩ : ∃ q, fu = q + 1 := ⟨fu - 1, by omega⟩
      refine ⟨left, h, ?_, X, B, N, fun j hj => by rw [bits j hj, List.take_of_length_le (by omega)]⟩
      rw [X9_searchBundle_B22]
      rw [G_t X.c.g.c145, X.k, if_pos (by rw [nI_lI (by omega) (by omega)]; omega)]
    | succ k ih =>
      intro i fu left h hi hf X B N bits
      obtain ⟨fu, rfl⟩ : ∃ q, fu = q + 1 := ⟨fu - 1, by omega⟩
      have g := X.c.g
      rw [X9_searchBundle_B22]
      rw [G_t g.c145, X.k, if_neg (by rw [nI_lI (by omega) (by omega)]; omega)]
      by_cases lz0 : left = lN 0
      · refine ⟨left, h, by rw [if_pos (cmp0.mpr lz0)], X, B, N, fun j hj => ?_⟩
        have := bits j hj
        rw [lz0, tl_n0] at this ⊢
        cases hp : PS a r s (d * 128 + base + j)
        · rfl
        · rw [hp, Bool.true_and] at this
          rw [alS_mono this.symm]; rfl
      · obtain ⟨fa, fb, fc⟩ := form_at X (by omega : i < fs.length)
        have ti := (X.f i (by omega)).2
        obtain ⟨w, h7, e7, F7, v7⟩ := spoiled_ok g g.l2 X.c.w X.c.q ti X.c.n X.c.y
        have X7 := X.fq F7 (fun a c => by omega)
        obtain ⟨l', h9, e9, X9, B9, N9, b9⟩ := ih (i + 1) fu (left &&& w) h7 (by omega) (by omega) X7 (B.fq F7 (fun x q => by omega)) (N.fq F7 (fun x c1 c2 => by omega)) (fun j hj => by
          rw [tl_and, bits j hj, (v7 j hj).2, alS_take (by omega)]
          cases hp : PS a r s (d * 128 + base + j)
          · rfl
          · rw [N j hj hp, Bool.true_and, Bool.true_and])
        refine ⟨l', h9, ?_, X9, B9, N9, b9⟩
        rw [if_neg (fun q => lz0 (cmp0.mp q)), G_t g.c145, fc, BN_ok, G_t g.c145, g.r145_9, G_t g.c180, g.r145_2, e7, BN_ok, LT_e, nI_add, LT_e]
        exact e9
  obtain ⟨left, h2, e2, X2, B2, N2, b2⟩ := loop fs.length 0 FU (xL h1 146 7) h1 (by omega) (FU_gt (by omega)) X1 B1 N1 (fun j hj => by
    rw [(v1 j hj).1, List.take_zero]
    show _ = (_ && true)
    rw [Bool.and_true])
  obtain ⟨h3, e3, X3, B3⟩ := bundle_lp (runs := runs) N120 ao hr 64 0 FU left fs n h2 (by omega) (FU_gt (by omega)) hn X2 B2 N2 (fun i _ h2 => b2 i h2)
  refine ⟨h3, ?_, X3, B3⟩
  have g1 := X1.c.g
  unfold X9_searchBundle_f
  rw [G_t X.c.g.c145, X.c.g.r145_0, G_t X.c.g.c146, X.c.g.r145_2, e1, BN_ok, G_t g1.c145, g1.r145_0, G_t g1.c146, LT_e, e2]
  exact e3
theorem CtX.fr0 {A : Nat → Prop} {h0 h h' : AH} {b m n : Nat} {p : PR} {r : NN_} {fs : LLn} {fd : List Nat} (F : Fr A h h') (a1 : ∀ a, A a → a = 146 ∨ (148 ≤ a ∧ a ≤ 150)) (X : CtX h0 h b m p r fs n fd) : CtX h0 h' b m p r fs n fd := X.fq F.q (fun a c => by have := a1 a c; omega)
/-- all bundles -/
theorem search_lp {h0 : AH} {b m runs : Nat} {p : PR} {r : NN_} {a : List Nat} (N120 : a.length ≤ 120) (ao : ∀ y, y ∈ a → OKf y) (hr : runs ≤ 100) : ∀ g s c mu fu i fs n (h : AH), 131072 - mu ≤ g → g < fu → i ≤ mu → n ≤ runs → CtX h0 h b m p r fs n [] → AdR h a (r 0 + r 1 + r 2 + r 3) s c mu → ∃ h', X9_search_B41 fu 145 62 (nI runs) (nI i) h = some (nI (trL p runs fs n (RSt a r (r 0 + r 1 + r 2 + r 3) s c)).2.2.1, h') ∧ CtX h0 h' b m p r (trL p runs fs n (RSt a r (r 0 + r 1 + r 2 + r 3) s c)).1 (trL p runs fs n (RSt a r (r 0 + r 1 + r 2 + r 3) s c)).2.1 (trL p runs fs n (RSt a r (r 0 + r 1 + r 2 + r 3) s c)).2.2.2 := by
  intro g
  induction g with
  | zero =>
    intro s c mu fu i fs n h hg hf hi hn X R
    have C := X.c
    have ml := R.le C.x N120
    obtain ⟨fu, rfl⟩ : ∃ q, fu = q + 1 := ⟨fu - 1, by omega⟩
    obtain ⟨c', h1, e1, F1, ad⟩ := advance_g C N120 R
    rcases ad with ⟨rfl, nil⟩ | ⟨rfl, s', d', base', B', _, m'⟩
    · refine ⟨h1, ?_, by rw [nil]; exact X.fr0 F1 (fun a c => by unfold PuA at c; omega)⟩
      rw [X9_search_B41, if_neg (by rw [nI_lI (by omega) (by omega)]; omega), G_t C.g.c145, C.g.r145_0, G_t C.g.c146, e1, BN_ok, if_pos (by decide), nil]; rfl
    · have := mu_lt C.x B'
      omega
  | succ g ih =>
    intro s c mu fu i fs n h hg hf hi hn X R
    have C := X.c
    have ml := R.le C.x N120
    obtain ⟨fu, rfl⟩ : ∃ q, fu = q + 1 := ⟨fu - 1, by omega⟩
    obtain ⟨c', h1, e1, F1, ad⟩ := advance_g C N120 R
    have X1 := X.fr0 F1 (fun a c => by unfold PuA at c; omega)
    rcases ad with ⟨rfl, nil⟩ | ⟨rfl, s', d', base', B', sp, m'⟩
    · refine ⟨h1, ?_, by rw [nil]; exact X1⟩
      rw [X9_search_B41, if_neg (by rw [nI_lI (by omega) (by omega)]; omega), G_t C.g.c145, C.g.r145_0, G_t C.g.c146, e1, BN_ok, if_pos (by decide), nil]; rfl
    · have ml' := mu_lt C.x B'
      obtain ⟨h2, e2, X2, B2⟩ := bundle_c N120 ao hr hn X1 B'
      have tb := trL_b (p := p) (runs := runs) (seg a r s' (d' * 128 + base') 64) fs n hn
      have fd := trL_fd (p := p) (runs := runs) (seg a r s' (d' * 128 + base') 64) fs n
      have hdr : X9_search_B41 (fu + 1) 145 62 (nI runs) (nI i) h = if hwV (trL p runs fs n (seg a r s' (d' * 128 + base') 64)).2.2.1 = (-1) then X9_search_B41 fu 145 62 (nI runs) (nI (i + 1)) h2 else some (hwV (trL p runs fs n (seg a r s' (d' * 128 + base') 64)).2.2.1, h2) := by
        rw [X9_search_B41, if_neg (by rw [nI_lI (by omega) (by omega)]; omega), G_t C.g.c145, C.g.r145_0, G_t C.g.c146, e1, BN_ok, if_neg (by decide), G_t X1.c.g.c145, e2, BN_ok, nI_add, LT_e]
      rw [hdr, sp, trL_app]
      generalize trL p runs fs n (seg a r s' (d' * 128 + base') 64) = R1 at X2 tb fd ⊢
      by_cases h0w : R1.2.2.1 = 0
      · have X2' : CtX h0 h2 b m p r R1.1 R1.2.1 [] := ⟨X2.c, X2.m, X2.mx, X2.f, X2.t, X2.k, ?_, X2.u, X2.l1, X2.ln, X2.n1, X2.g, X2.xn, X2.xs, X2.m0⟩
        · obtain ⟨h9, e9, X9⟩ := ih s' (d' * 128 + base' + 64) (muA s' d' base') fu (i + 1) R1.1 R1.2.1 h2 (by omega) (by omega) (by omega) tb.2.1 X2' (.inr ⟨d', base', B2, rfl, rfl⟩)
          refine ⟨h9, ?_, by rw [if_pos h0w]; exact X9⟩
          unfold hwV
          rw [if_pos h0w, if_pos h0w, if_pos rfl]; exact e9
        · rw [← fd h0w]; exact X2.s
      · rw [if_neg h0w]
        refine ⟨h2, ?_, X2⟩
        unfold hwV
        rw [if_neg h0w, if_neg (by rw [nI_m1 (by omega)]; exact id)]
theorem search_c {h0 : AH} {b m runs : Nat} {p : PR} {r : NN_} (C : CaX_ h0 62 b p r) (fm : Fm h0 true m) (mx : m + 19 ≤ xn h0) (m0 : 227 ≤ m) (hr : runs ≤ 100) (ns : NuS h0 162 3) (em : IsN h0 166 0 []) : ∃ h', X9_search_f 145 62 (nI runs) h0 = some (nI (trL p runs [[]] 0 (ups (alF p r) r 1 (r 0 + r 1 + r 2 + r 3))).2.2.1, h') ∧ CtX h0 h' b m p r (trL p runs [[]] 0 (ups (alF p r) r 1 (r 0 + r 1 + r 2 + r 3))).1 (trL p runs [[]] 0 (ups (alF p r) r 1 (r 0 + r 1 + r 2 + r 3))).2.1 (trL p runs [[]] 0 (ups (alF p r) r 1 (r 0 + r 1 + r 2 + r 3))).2.2.2 := by
  have N120 := alF_len (r := r) C.q.w C.y
  have ao : ∀ y, y ∈ alF p r → OKf y := fun y hy => (alF_ok C.q.w C.y hy).1
  have g := C.g
  obtain ⟨h1, e1⟩ : ∃ h1, h1 = pI (pI (pI h0 145 10 (nI 0)) 145 11 (nI 1)) 162 1 (nI 0) := ⟨_, rfl⟩
  have F1 : Fr (fun x => x = 145 ∨ x = 162) h0 h1 := by
    rw [e1]
    exact ((Fr.i (.inl rfl)).tr (Fr.i (.inl rfl))).tr (Fr.i (.inr rfl))
  have C1 := C.fq F1.q (fun a c => by omega)
  have g1 := C1.g
  have fm1 := fm.fz F1.q.f
  have em1 : IsN h1 166 0 [] := em.fr F1 (by decide) (by decide)
  have s1 : IsN h1 162 3 [] := by
    rw [e1]
    exact ⟨ns.1, ns.2.1, ns.2.2.1, ns.2.2.2.1, by decide, by decide, xI_self, fun i hi => absurd hi (Nat.not_lt_zero _)⟩
  obtain ⟨h2, e2, F2, t2⟩ := play_ok g1 C1.w C1.q C1.n C1.y em1 (fun d hd => absurd hd List.not_mem_nil) (.inr (by decide)) g1.t3
  have C2 := C1.fq F2 (fun a c => by omega)
  have g2 := C2.g
  have z2 : xR h2 159 0 = 168 := by rw [F2.r _ (by decide)]; exact fm1.z
  have x2 : xI h2 145 10 = nI 0 := by rw [F2.I _ (by omega), e1, xI_ne (by omega), xI_ne (by omega), xI_self]
  have y2 : xI h2 145 11 = nI 1 := by rw [F2.I _ (by omega), e1, xI_ne (by omega), xI_self]
  obtain ⟨h3, e3, F3, P3⟩ := begin_c C2
  have X2 : CtX h0 h2 b m p r [[]] 0 [] := by
    refine ⟨C2, fm1.fz F2.f, by rw [F2.1, F1.n]; exact mx, fun i hi => ?_, x2, y2, s1.fq F2 (by decide) (by omega) (by omega), ?_, by decide, by decide, by decide, ?_, by rw [F2.1, F1.n]; omega, by rw [F2.2.1, F1.s]; omega, m0⟩
    · have : i = 0 := by
        have hi : i < 1 := hi
        omega
      subst this
      rw [z2]
      exact ⟨by decide, t2⟩
    · exact ⟨g2.c160, g2.r160_0, g2.c161, g2.z161, by decide⟩
    · have Fa : Fg (TgA m) h0 h1 := by
        rw [e1]
        exact ((Fg.i (by unfold TgA; omega)).tr (Fg.i (by unfold TgA; omega))).tr (Fg.i (by unfold TgA; omega))
      exact Fa.tr (F2.fg (fun a k c => by unfold TgA; omega))
  have X3 := X2.fr0 F3 (fun a c => by unfold PuA at c; omega)
  obtain ⟨h4, e4, X4⟩ := search_lp (runs := runs) N120 ao hr 131072 0 1 (muA 0 0 (alF p r).length) FU 0 [[]] 0 h3 (by omega) (FU_gt (by omega)) (by omega) (by omega) X3 (.inl ⟨rfl, rfl, P3, rfl⟩)
  have rs : RSt (alF p r) r (r 0 + r 1 + r 2 + r 3) 0 1 = ups (alF p r) r 1 (r 0 + r 1 + r 2 + r 3) := by
    unfold RSt
    rw [show 128 ^ 0 - 1 = 0 from rfl]; rfl
  rw [rs] at e4 X4
  refine ⟨h4, ?_, X4⟩
  have gA : SG (pI (pI h0 145 10 (nI 0)) 145 11 (nI 1)) := g.i.i
  have cA : xc (pI (pI h0 145 10 (nI 0)) 145 11 (nI 1)) 162 = 4 := ns.1
  unfold X9_search_f
  rw [G_t g.c145, LT_e, G_t g.i.c145, LT_e, G_t gA.c145, gA.r145_5, G_t cA, nw_wipe cA, BN_ok, ← e1, G_t g1.c145, formula0_c g1 fm1.z, BN_ok, G_t g1.c145, g1.r145_7, e2, BN_ok, G_t g2.c145, g2.r145_0, G_t g2.c146, e3, BN_ok]
  exact e4
