theorem Fz.g {A : Nat → Nat → Prop} {h : AH} {k v : Nat} : Fz A h (pR h 119 k v) := ⟨rfl, rfl, rfl, rfl, fun a j n => by rw [xR_pR, if_neg (fun q => n (.inr (.inr q.1)))], fun _ _ _ => ⟨rfl, rfl⟩⟩
theorem copy_ok {h : AH} {b : Nat} {p : PR} (g : SG h) (w : IsW h 62 b p) : ∃ h', X10_copy_f 119 62 h = some ((), h') ∧ Fz (fun a _ => a = 119) h h' ∧ IsW h' 119 b p := by
  refine ⟨pI (pI (pI (pI (pI (pR h 119 0 b) 119 1 (nI (pl p))) 119 2 (pS p)) 119 3 (pK p)) 119 4 (pA p)) 119 5 (pb p), ?_, ?_, .inr rfl, g.c119, ?_, ?_, ?_, ?_, ?_, ?_⟩
  · unfold X10_copy_f
    have gR : SG (pR h 119 0 b) := g.fz (A := fun a _ => a = 119) Fz.g
    rw [G_t g.c62, G_t g.c119, LT_e, w.bk, G_t gR.c62, G_t gR.c119, LT_e, xI_pR, w.l, G_t gR.i.c62, G_t gR.i.c119, LT_e, xI_ne (by decide), xI_pR, w.S, G_t gR.i.i.c62, G_t gR.i.i.c119, LT_e, xI_ne (by decide), xI_ne (by decide), xI_pR, w.K, G_t gR.i.i.i.c62, G_t gR.i.i.i.c119, LT_e, xI_ne (by decide), xI_ne (by decide), xI_ne (by decide), xI_pR, w.A, G_t gR.i.i.i.i.c62, G_t gR.i.i.i.i.c119, LT_e, xI_ne (by decide), xI_ne (by decide), xI_ne (by decide), xI_ne (by decide), xI_pR, w.B]
  · exact ((((Fz.g.tr (Fz.i (by rfl))).tr (Fz.i (by rfl))).tr (Fz.i (by rfl))).tr (Fz.i (by rfl))).tr (Fz.i (by rfl))
  · show xR (pR h 119 0 b) 119 0 = b
    rw [xR_pR, if_pos ⟨rfl, rfl⟩]
  · rw [xI_ne (by decide), xI_ne (by decide), xI_ne (by decide), xI_ne (by decide), xI_self]
  · rw [xI_ne (by decide), xI_ne (by decide), xI_ne (by decide), xI_self]
  · rw [xI_ne (by decide), xI_ne (by decide), xI_self]
  · rw [xI_ne (by decide), xI_self]
  · rw [xI_self]
theorem isBroken_g {h : AH} {wk b na z : Nat} {p : PR} {l : List Nat} (g : SG h) (w : IsW h wk b p) (q : IsCB h b p.1) (n : 1 ≤ pl p) (x : pl p ≤ 6) (nu : IsN h na z l) (o : ∀ d, d ∈ l → OKf d) (hn : na + 1 < 151 ∨ (158 < na ∧ na + 1 < 174)) : ∃ h', X11_isBroken_f 1 wk na h = some (bI (outB p (flOf l) == 2), h') ∧ Fq (fun x => (152 ≤ x ∧ x ≤ 154) ∨ (174 ≤ x ∧ x ≤ 179) ∨ (182 ≤ x ∧ x ≤ 182 + 5)) h h' := by
  obtain ⟨h1, e1, F1, t1⟩ := play_ok g w q n x nu o hn g.t1
  have g1 := g.fq F1
  have ob := outB_le (p := p) (f := flOf l)
  refine ⟨h1, ?_, F1⟩
  unfold X11_isBroken_f
  rw [G_t g.c1, g.r1_8, G_t g.c145, g.r1_9, e1, BN_ok, G_t g1.c1, g1.r1_9, G_t g1.c182, t1.V]
  by_cases e : outB p (flOf l) = 2
  · rw [if_pos (by rw [e]), e]; rfl
  · have : (outB p (flOf l) == 2) = false := by simpa using e
    rw [if_neg (by rw [nI_eI (by omega) (by omega)]; exact e), this]; rfl
/-- FIT -/
def ntB (p : PR) (s : LLn) (j : Nat) : Bool := !(outB p (flOf (s.getD j [])) == 2)
def fitB (p : PR) (s : LLn) : Bool := (outB p (flOf []) == 0) && allF (ntB p s) 0 s.length
theorem IsW.fq2 {A : Nat → Prop} {h h' : AH} {wk b : Nat} {p : PR} (F : Fq A h h') (n : ¬ A wk) (q : IsW h wk b p) : IsW h' wk b p := q.fq F n
def FiA : Nat → Nat → Prop := fun a _ => a = 119 ∨ (152 ≤ a ∧ a ≤ 154) ∨ (174 ≤ a ∧ a ≤ 179) ∨ (182 ≤ a ∧ a ≤ 182 + 5) ∨ (188 ≤ a ∧ a ≤ 188 + 5)
theorem getD_memL {s : LLn} {j : Nat} (hj : j < s.length) : s.getD j [] ∈ s := by
  rw [List.getD_eq_getElem?_getD, List.getElem?_eq_getElem hj]; exact List.getElem_mem hj
theorem isFit_c {h k : AH} {bo : Bool} {p : PR} {b m z : Nat} {l lm : List Nat} {s : LLn} {r : NN_} {lo lx : List Nat} (i : INV h bo p b m z l lm s r lo lx) (hb : bo = true) (F : Fz (SCR m) h k) (v : Int32) : ∃ k', X11_isFit_f 1 v k = some (bI (fitB (mdQ lm v lm.length p) s), k') ∧ Fz (SCR m) h k' := by
  have gk := i.g.fz F
  have B := (i.b.fz F (fun a k q => sB_ q) i.bb).b1 hb
  have M := i.m.fz F (fun a k q => sM_ q)
  have K := i.k.fz F (fun a k q => sK_ q)
  have Z := i.z.fz F (fun a k q => sZ_ q)
  have kx := K.x
  generalize hp' : mdQ lm v lm.length p = p'
  have hpB : p'.1 = p.1 := by rw [← hp']; rfl
  have n' : 1 ≤ pl p' := by rw [← hp']; exact B.n
  have x' : pl p' ≤ 6 := by rw [← hp']; exact B.x
  obtain ⟨h1, e1, F1, w1⟩ := copy_ok gk B.w
  have g1 := gk.fz F1
  obtain ⟨h2, e2, F2, w2⟩ := mendAll_ok v g1 (M.n.fz F1 (by decide) (by decide) (fun k => by decide)) M.o w1
  rw [hp'] at w2
  have g2 := g1.fr F2
  have Fb : Fz FiA k h2 := (F1.mo (fun a k q => .inl q)).tr (F2.q.f.mo (fun a k q => .inl q))
  have qB : ∀ {k'}, Fz FiA k k' → IsCB k' b p'.1 := fun Fk => by rw [hpB]; exact B.q.fz Fk (fun a k c => by unfold FiA at c; omega)
  have Z2 : gZ_ h2 := Z.fz Fb (fun a k q => by unfold FiA; omega)
  obtain ⟨h3, e3, F3, t3⟩ := play_ok g2 w2 (qB Fb) n' x' (nothing_c g2 Z2) (fun d hd => absurd hd List.not_mem_nil) (.inl (by decide)) g2.t2
  have g3 := g2.fq F3
  have Fc : Fz FiA k h3 := Fb.tr (F3.f.mo (fun a k q => by unfold FiA; omega))
  have fin : ∀ {k'}, Fz FiA k k' → Fz (SCR m) h k' := fun Fk => F.tr (Fk.mo (fun a k q => by unfold FiA at q; unfold SCR; omega))
  have loop : ∀ n j h', j ≤ s.length → s.length - j < n → Fz FiA k h' → IsW h' 119 b p' → ∃ k', X11_isFit_B53 n 1 (nI j) h' = some (bI (allF (ntB p' s) j s.length), k') ∧ Fz FiA k k' := by
    intro n
    induction n with
    | zero => intro j h' _ hn; exact absurd hn (Nat.not_lt_zero _)
    | succ n ih =>
      intro j h' hj hn Fh w
      have g' := gk.fz Fh
      have K' := K.fz Fh (fun a k q => by unfold FiA; omega)
      rcases Nat.lt_or_ge j s.length with hj | hj
      · obtain ⟨kr, ku⟩ := ks_c g' j (by omega)
        obtain ⟨h4, e4, F4⟩ := isBroken_g g' w (qB Fh) n' x' (K'.n j hj) (fun d hd => K'.o _ (getD_memL hj) d hd) (.inl (by omega))
        have Fh4 : Fz FiA k h4 := Fh.tr (F4.f.mo (fun a k q => by unfold FiA; omega))
        have run : X11_isFit_B53 (n + 1) 1 (nI j) h' = if bI (outB p' (flOf (s.getD j [])) == 2) = 0 then X11_isFit_B53 n 1 (nI (j + 1)) h4 else some (nI 0, h4) := by
          rw [X11_isFit_B53]
          rw [G_t g'.c1, K'.c, if_neg (by rw [nI_lI (by omega) (by omega)]; omega), G_t g'.c1, g'.r1_7, G_t g'.c128, g'.z128, G_gx (by omega) (by omega), g'.r1_2, nI_cl (by omega), kr, e4, BN_ok, nI_add, LT_e]
        rw [allF_step hj, run]
        unfold ntB
        cases eb : (outB p' (flOf (s.getD j [])) == 2)
        · rw [if_pos (by decide)]
          exact ih (j + 1) h4 (by omega) (by omega) Fh4 (w.fq F4 (by decide))
        · rw [if_neg (by decide)]
          exact ⟨h4, rfl, Fh4⟩
      · have : j = s.length := by omega
        subst this
        refine ⟨h', ?_, Fh⟩
        rw [X11_isFit_B53]
        rw [G_t g'.c1, K'.c, if_pos (by rw [nI_lI (by omega) (by omega)]; omega), allF_end (Nat.le_refl _)]
        rfl
  have ob := outB_le (p := p') (f := flOf [])
  have run : X11_isFit_f 1 v k = if nI (outB p' (flOf [])) = 0 then X11_isFit_B53 FU 1 (nI 0) h3 else some (nI 0, h3) := by
    unfold X11_isFit_f
    rw [G_t gk.c1, gk.r1_2, G_t gk.c119, gk.r1_1, e1, BN_ok, G_t g1.c1, g1.r1_2, e2, BN_ok, G_t g2.c1, g2.r1_8, G_t g2.c145, g2.r1_2, g2.r1_4, g2.r1_10, e3, BN_ok, G_t g3.c1, g3.r1_10, G_t g3.c188, t3.V]
  rw [run]
  unfold fitB
  by_cases e : outB p' (flOf []) = 0
  · obtain ⟨k', e4, F4⟩ := loop FU 0 h3 (Nat.zero_le _) (FU_gt (by omega)) Fc (w2.fq F3 (by decide))
    rw [if_pos (by rw [e]; exact nI_0), e]
    exact ⟨k', e4, fin F4⟩
  · have : (outB p' (flOf []) == 0) = false := by simpa using e
    rw [if_neg (nI_ne0 (by omega) (by omega)), this]
    exact ⟨h3, rfl, fin Fc⟩
theorem Fz.rs {A : Nat → Nat → Prop} {h h' : AH} (F : Fz (fun a k => A a k ∨ MkA a k) h h') (e : ∀ k, MkA 195 k → xI h' 195 k = xI h 195 k) (el : xL h' 195 = xL h 195) : Fz A h h' := by
  refine ⟨F.1, F.2.1, F.2.2.1, F.2.2.2.1, F.2.2.2.2.1, fun a k n => ?_⟩
  by_cases q : MkA a k
  · have ha : a = 195 := q.1
    subst ha
    exact ⟨e k q, by rw [el]⟩
  · exact F.2.2.2.2.2 a k (fun c => c.elim n q)
theorem isFit_m {h k : AH} {bo : Bool} {p : PR} {b m z : Nat} {l lm : List Nat} {s : LLn} {r : NN_} {lo lx : List Nat} (i : INV h bo p b m z l lm s r lo lx) (hb : bo = true) (F : Fz (SCR m) h k) (v : Int32) : ∃ k', X15_isFit_f 195 v k = some (bI (fitB (mdQ lm v lm.length p) s), k') ∧ Fz (fun a _ => (203 ≤ a ∧ a ≤ 205) ∨ (210 ≤ a ∧ a ≤ 214)) k k' := by
  have gk := i.g.fz F
  have B := (i.b.fz F (fun a k q => sB_ q) i.bb).b1 hb
  have M := i.m.fz F (fun a k q => sM_ q)
  have K := i.k.fz F (fun a k q => sK_ q)
  have kx := K.x
  generalize hp' : mdQ lm v lm.length p = p'
  have lo := B.mq.s.lo
  have r0 : R3 k p.2.2.2 := ⟨B.K, B.A, B.B⟩
  obtain ⟨h1, e1, F1, l1, r1⟩ := makes_m v gk M.m M.f M.g M.o M.n.n r0
  have g1 := gk.fz F1
  have C1 : MoX h1 m p' := by
    rw [← hp']
    exact ⟨g1, B.mq.fz F1 (fun k j hk => by unfold MkA; omega), by rw [F1.r _ (by decide)]; exact B.mr, by rw [F1.I (by unfold MkA; omega)]; exact B.l, by rw [F1.I (by unfold MkA; omega)]; exact B.S, r1.1, r1.2.1, r1.2.2, B.n, B.x⟩
  have K1 := K.fz F1 (fun a k q => by unfold MkA; omega)
  obtain ⟨h2, e2, F2, _, _⟩ := runs_m (k := 2) (i0 := 0) (l := []) C1 (by decide) g1.c199 (Nat.zero_le _) (by decide) (fun i hi => absurd hi (Nat.not_lt_zero _)) (fun d hd => absurd hd List.not_mem_nil) (by decide)
  have ob := outB_le (p := p') (f := flOf [])
  have loop : ∀ n j (h' : AH), j ≤ s.length → s.length - j < n → Fr (fun a => (203 ≤ a ∧ a ≤ 205) ∨ (210 ≤ a ∧ a ≤ 214)) h1 h' → ∀ c : Bool, ∃ k', X15_isFit_B45 n 195 (pK p) (pA p) (pb p) (bI c) (nI j) h' = X15_isFit_B97 195 (pK p) (pA p) (pb p) (bI (c && allF (ntB p' s) j s.length)) k' ∧ Fr (fun a => (203 ≤ a ∧ a ≤ 205) ∨ (210 ≤ a ∧ a ≤ 214)) h1 k' := by
    intro n
    induction n with
    | zero => intro j h' _ hn; exact absurd hn (Nat.not_lt_zero _)
    | succ n ih =>
      intro j h' hj hn Fh c
      have g' := g1.fr Fh
      have K' := K1.fz Fh.q.f (fun a k q => by omega)
      rcases Nat.lt_or_ge j s.length with hj | hj
      · cases c
        · refine ⟨h', ?_, Fh⟩
          rw [X15_isFit_B45]
          rw [G_t g'.c195, K'.m, if_neg (by rw [nI_lI (by omega) (by omega)]; omega), if_pos (by decide)]
          rfl
        · have C' := C1.fr Fh (by intro a q; omega)
          have ln := (K'.n j hj).n
          have z1 := g'.z201
          have vk : xI h' 200 (nI j).toNatClampNeg = nI (s.getD j []).length := by rw [nI_cl (by omega)]; exact K'.k j hj
          obtain ⟨h4, e4, F4, _, _⟩ := runs_m (k := 2) (i0 := 6 * j) (l := s.getD j []) C' (by decide) g'.c201 (by omega) (by omega) (K'.f j hj) (fun d hd => K'.o _ (getD_memL hj) d hd) (by decide)
          have ob := outB_le (p := p') (f := flOf (s.getD j []))
          have run : X15_isFit_B45 (n + 1) 195 (pK p) (pA p) (pb p) (bI true) (nI j) h' = X15_isFit_B45 n 195 (pK p) (pA p) (pb p) (bI (ntB p' s j)) (nI (j + 1)) h4 := by
            rw [X15_isFit_B45]
            rw [G_t g'.c195, K'.m, if_neg (by rw [nI_lI (by omega) (by omega)]; omega), if_neg (by decide), G_t g'.c195, g'.r195_21, G_t g'.c200, g'.z200, G_gx (by omega) (by omega), g'.r195_22, vk, pk_mul, e4, BN_ok]
            unfold X15_isFit_B89 ntB
            by_cases e : outB p' (flOf (s.getD j [])) = 2
            · rw [if_pos (by rw [e]), LT_e, nI_add, e]; rfl
            · have : (outB p' (flOf (s.getD j [])) == 2) = false := by simpa using e
              rw [if_neg (by rw [nI_eI (by omega) (by omega)]; exact e), LT_e, nI_add, this]; rfl
          rw [run, allF_step hj, Bool.true_and]
          exact ih (j + 1) h4 (by omega) (by omega) (Fh.tr F4) _
      · have : j = s.length := by omega
        subst this
        refine ⟨h', ?_, Fh⟩
        rw [X15_isFit_B45]
        rw [G_t g'.c195, K'.m, if_pos (by rw [nI_lI (by omega) (by omega)]; omega), allF_end (Nat.le_refl _), Bool.and_true]
  obtain ⟨h5, e5, F5⟩ := loop FU 0 h2 (Nat.zero_le _) (FU_gt (by omega)) F2 (outB p' (flOf []) == 0)
  have g5 := g1.fr F5
  have Fa : Fz (fun a k => ((203 ≤ a ∧ a ≤ 205) ∨ (210 ≤ a ∧ a ≤ 214)) ∨ MkA a k) k (pI (pI (pI h5 195 23 (pK p)) 195 24 (pA p)) 195 25 (pb p)) := ((((F1.mo (fun a k q => .inr q)).tr (F5.q.f.mo (fun a k q => .inl q))).tr (Fz.i (.inr (by unfold MkA; omega)))).tr (Fz.i (.inr (by unfold MkA; omega)))).tr (Fz.i (.inr (by unfold MkA; omega)))
  refine ⟨pI (pI (pI h5 195 23 (pK p)) 195 24 (pA p)) 195 25 (pb p), ?_, Fa.rs (fun j hj => ?_) ?_⟩
  · have bzb : ∀ c : Bool, bz (bI c) := fun c => by cases c <;> decide
    have run : X15_isFit_f 195 v k = X15_isFit_B45 FU 195 (pK p) (pA p) (pb p) (bI (outB p' (flOf []) == 0)) (nI 0) h2 := by
      unfold X15_isFit_f
      rw [G_t gk.c195, LT_e, LT_e, LT_e, B.K, B.A, B.B, e1, BN_ok, G_t g1.c195, g1.r195_20]
      have e2' : X15_runs_f 195 (nI 2) 199 (nI 0) (nI 0) h1 = some (nI (outB p' (flOf [])), h2) := e2
      rw [e2', BN_ok]
      unfold X15_isFit_B40
      by_cases e : outB p' (flOf []) = 0
      · rw [if_pos (by rw [e]; exact nI_0), e]; rfl
      · have : (outB p' (flOf []) == 0) = false := by simpa using e
        rw [if_neg (nI_ne0 (by omega) (by omega)), this]; rfl
    rw [run, e5]
    unfold X15_isFit_B97
    rw [G_t g5.c195, LT_e, G_t g5.i.c195, LT_e, G_t g5.i.i.c195, LT_e, G_t (bzb _)]
    rfl
  · have : j = 23 ∨ j = 24 ∨ j = 25 := hj.2
    rcases this with rfl | rfl | rfl
    · rw [xI_ne (by omega), xI_ne (by omega), xI_self]; exact B.K.symm
    · rw [xI_ne (by omega), xI_self]; exact B.A.symm
    · rw [xI_self]; exact B.B.symm
  · have : xL h5 195 = xL h1 195 := funext fun j => F5.L j (by decide)
    show xL h5 195 = _
    rw [this, l1]
