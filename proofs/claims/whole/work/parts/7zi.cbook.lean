/-- a heap that grew; references at P, numbers at A may have changed -/
def Fw (P A : Nat → Nat → Prop) (h h' : AH) : Prop := xn h ≤ xn h' ∧ ∀ a, a < xn h → xc h' a = xc h a ∧ xz h' a = xz h a ∧ (∀ k, ¬ P a k → xR h' a k = xR h a k) ∧ ∀ k, ¬ A a k → xI h' a k = xI h a k ∧ xL h' a k = xL h a k
def P1_ (a k : Nat) : Prop := a = 174 ∧ 7 ≤ k ∨ a = 180 ∧ 1 ≤ k ∨ a = 119 ∨ a = 58 ∧ k = 10 ∨ a = 195 ∧ k = 5
def P2_ (a k : Nat) : Prop := P1_ a k ∨ a = 195 ∧ k = 4 ∨ a = 62 ∧ k = 0 ∨ a = 1 ∧ k = 12
section
variable {P P' A A' : Nat → Nat → Prop} {h h1 h' : AH}
theorem Fw.rf : Fw P A h h := ⟨Nat.le_refl _, fun _ _ => ⟨rfl, rfl, fun _ _ => rfl, fun _ _ => ⟨rfl, rfl⟩⟩⟩
theorem Fw.tr (p : Fw P A h h1) (q : Fw P A h1 h') : Fw P A h h' := ⟨Nat.le_trans p.1 q.1, fun a n => by
  have p2 := p.2 a n
  have q2 := q.2 a (Nat.lt_of_lt_of_le n p.1)
  exact ⟨q2.1.trans p2.1, q2.2.1.trans p2.2.1, fun k c => (q2.2.2.1 k c).trans (p2.2.2.1 k c), fun k c => ⟨(q2.2.2.2 k c).1.trans (p2.2.2.2 k c).1, (q2.2.2.2 k c).2.trans (p2.2.2.2 k c).2⟩⟩⟩
theorem Fw.mo (p : Fw P A h h') (s : ∀ a k, P a k → P' a k) (t : ∀ a k, a < xn h → A a k → A' a k) : Fw P' A' h h' := ⟨p.1, fun a n => ⟨(p.2 a n).1, (p.2 a n).2.1, fun k c => (p.2 a n).2.2.1 k (fun q => c (s a k q)), fun k c => (p.2 a n).2.2.2 k (fun q => c (t a k n q))⟩⟩
theorem Fz.fw (F : Fz A h h') : Fw P1_ A h h' := ⟨by rw [F.n]; exact Nat.le_refl _, fun a _ => ⟨F.c a, F.z a, fun k c => F.2.2.2.2.1 a k (fun q => c (by unfold P1_; omega)), fun k c => ⟨F.I c, F.L c⟩⟩⟩
theorem Fw.pr {a k v : Nat} (q : P a k) : Fw P A h (pR h a k v) := ⟨Nat.le_refl _, fun b _ => ⟨rfl, rfl, fun j c => by rw [xR_pR, if_neg (fun z : b = a ∧ j = k => c (by rw [z.1, z.2]; exact q))], fun _ _ => ⟨rfl, rfl⟩⟩⟩
theorem Ge.fw (E : Ge h h') : Fw P A h h' := ⟨E.1, fun a n => ⟨E.c n, E.z n, fun k _ => E.r n, fun k _ => ⟨E.I n, congrFun (E.2 a n).2.2.2.2 k⟩⟩⟩
theorem Fw.c {a : Nat} (F : Fw P A h h') (n : a < xn h) : xc h' a = xc h a := (F.2 a n).1
theorem Fw.z {a : Nat} (F : Fw P A h h') (n : a < xn h) : xz h' a = xz h a := (F.2 a n).2.1
theorem Fw.r {a k : Nat} (F : Fw P A h h') (n : a < xn h) (c : ¬ P a k) : xR h' a k = xR h a k := (F.2 a n).2.2.1 k c
theorem Fw.I {a k : Nat} (F : Fw P A h h') (n : a < xn h) (c : ¬ A a k) : xI h' a k = xI h a k := ((F.2 a n).2.2.2 k c).1
theorem tR_ok3 : ∀ q ∈ tR, ¬ ((q.1 = 174 ∧ 7 ≤ q.2.1 ∨ q.1 = 180 ∧ 1 ≤ q.2.1 ∨ q.1 = 119 ∨ q.1 = 58 ∧ q.2.1 = 10 ∨ q.1 = 195 ∧ q.2.1 = 5) ∨ q.1 = 195 ∧ q.2.1 = 4 ∨ q.1 = 62 ∧ q.2.1 = 0 ∨ q.1 = 1 ∧ q.2.1 = 12) := by decide +kernel
theorem SG.fw (F : Fw P2_ A h h') (s : SG h) : SG h' := by
  have s1 := s.1
  refine ⟨Nat.le_trans s.1 F.1, fun a ha => ?_, fun q hq => ?_⟩
  · rw [F.c (by omega), F.z (by omega)]; exact s.2.1 a ha
  · have := tR_lt q hq
    rw [F.r (by omega) (tR_ok3 q hq)]; exact s.2.2 q hq
theorem P12 {a k : Nat} (q : P1_ a k) : P2_ a k := .inl q
end
/-- the draft, wiped -/
theorem wipe0_c {h : AH} {b : Nat} (s : BS h b) (hb : b = 2 ∨ b = 63) : ∃ h', X0_wipe_f b h = some ((), h') ∧ Fz (fun x _ => x = b) h h' ∧ IsCB h' b B0_ := by
  have A : ∀ (g : AH) k v, Fz (fun x _ => x = b) g (pI g b k v) := fun g k v => Fz.i rfl
  have cc : ∀ (g : AH) k v, xc g b = 0 → xc (pI g b k v) b = 0 := fun g k v q => q
  have F := ((((((((A h 0 (nI 0)).tr (A _ 1 (nI 0))).tr (A _ 2 (nI 0))).tr (A _ 3 (nI 0))).tr (A _ 4 (nI 0))).tr (A _ 5 (nI 0))).tr (A _ 6 (nI 0))).tr (A _ 14 (nI 0))).tr (A _ 15 (nI 0))
  have c1 := cc _ 0 (nI 0) s.c
  have c2 := cc _ 1 (nI 0) c1
  have c3 := cc _ 2 (nI 0) c2
  have c4 := cc _ 3 (nI 0) c3
  have c5 := cc _ 4 (nI 0) c4
  have c6 := cc _ 5 (nI 0) c5
  have c7 := cc _ 6 (nI 0) c6
  have c8 := cc _ 14 (nI 0) c7
  unfold X0_wipe_f
  rw [G_t s.c, LT_e, G_t c1, LT_e, G_t c2, LT_e, G_t c3, LT_e, G_t c4, LT_e, G_t c5, LT_e, G_t c6, LT_e, G_t c7, LT_e, G_t c8, LT_e]
  refine ⟨_, rfl, F, s.fz F, WB_0, ?_, ?_, ?_, ?_, ?_, ?_, ?_, ?_, ?_, fun i hi => absurd hi (Nat.not_lt_zero _), fun i hi => absurd hi (Nat.not_lt_zero _), fun i hi => absurd hi (Nat.not_lt_zero _), fun i hi => absurd hi (Nat.not_lt_zero _), fun i hi => absurd hi (Nat.not_lt_zero _), fun i hi => absurd hi (Nat.not_lt_zero _), fun i hi => absurd hi (Nat.not_lt_zero _)⟩
  · rw [xI_ne (by omega), xI_ne (by omega), xI_ne (by omega), xI_ne (by omega), xI_ne (by omega), xI_ne (by omega), xI_ne (by omega), xI_ne (by omega), xI_self]; rfl
  · rw [xI_ne (by omega), xI_ne (by omega), xI_ne (by omega), xI_ne (by omega), xI_ne (by omega), xI_ne (by omega), xI_ne (by omega), xI_self]; rfl
  · rw [xI_ne (by omega), xI_ne (by omega), xI_ne (by omega), xI_ne (by omega), xI_ne (by omega), xI_ne (by omega), xI_self]; rfl
  · rw [xI_ne (by omega), xI_ne (by omega), xI_ne (by omega), xI_ne (by omega), xI_ne (by omega), xI_self]; rfl
  · rw [xI_ne (by omega), xI_ne (by omega), xI_ne (by omega), xI_ne (by omega), xI_self]; rfl
  · rw [xI_ne (by omega), xI_ne (by omega), xI_ne (by omega), xI_self]; rfl
  · rw [xI_ne (by omega), xI_ne (by omega), xI_self]; rfl
  · rw [xI_ne (by omega), xI_self]; rfl
  · rw [xI_self]; rfl
def RdA (D : Nat) : Nat → Nat → Prop := fun x _ => x = 58 ∨ x = 60 ∨ x = 61 ∨ (D ≤ x ∧ x ≤ D + 55)
/-- the whole of a book -/
def prsX (T : Nat → Int32) (n : Nat) : Nat × Nat × BK := prs T n (n + 1) (tkP T n 0) B0_ []
theorem pR_pI {h : AH} {a k b j r : Nat} {v : Int32} : pR (pI h a k v) b j r = pI (pR h b j r) a k v := rfl
theorem read_c {h : AH} {n z D : Nat} {T : Nat → Int32} (g : SG h) (e4 : xI h 58 4 = nI z) (hz : z ≤ 700) (hn : n ≤ z) (tp : ∀ k, k < n → xI h 59 k = T k) (bt : ∀ k, k < n → byt (T k)) (hD : D = 2 ∨ D = 63) : ∃ w h', X6_read_f 58 (nI n) D h = some (w, h') ∧ Fw P1_ (RdA D) h h' ∧ xn h' = xn h ∧ xs h' = xs h ∧ xR h' 58 10 = D ∧ SG h' ∧ xI h' 58 4 = nI 0 ∧ xI h' 58 6 = nI (prsX T n).2.1 ∧ ((prsX T n).1 = 0 → w = nI 1 ∧ IsCB h' D (prsX T n).2.2 ∧ xI h' 58 9 = nI 0) ∧ ((prsX T n).1 ≠ 0 → w = nI 0 ∧ xI h' 58 9 = nI (prsX T n).1) := by
  unfold prsX
  have cv : (if (nI 0) < (if (xI h 58 4) < nI n then (xI h 58 4) else nI n) then (if (xI h 58 4) < nI n then (xI h 58 4) else nI n) else (nI 0)) = nI n := by
    rw [e4, if_neg (show ¬ nI z < nI n by rw [nI_tI (by omega) (by omega)]; omega)]
    by_cases n0 : n = 0
    · subst n0; rw [if_neg (by decide)]
    · rw [if_pos (by rw [nI_tI (by omega) (by omega)]; omega)]
  obtain ⟨hx, hxe⟩ : ∃ hx, hx = pR h 58 10 D := ⟨_, rfl⟩
  have F0 : Fw P1_ (RdA D) h hx := by rw [hxe]; exact Fw.pr (by unfold P1_; omega)
  have gx_ : SG hx := g.fw (F0.mo (fun a k q => P12 q) (fun a k _ q => q))
  obtain ⟨g5, g5e⟩ : ∃ g5, g5 = pI (pI (pI (pI (pI hx 58 5 (nI n)) 58 4 (nI 0)) 58 7 (nI 0)) 58 3 (nI 0)) 58 9 (nI 0) := ⟨_, rfl⟩
  have F5 : Fz (fun x k => x = 58 ∧ (k = 5 ∨ k = 4 ∨ k = 7 ∨ k = 3 ∨ k = 9)) hx g5 := by
    rw [g5e]
    exact ((((Fz.i (by omega)).tr (Fz.i (by omega))).tr (Fz.i (by omega))).tr (Fz.i (by omega))).tr (Fz.i (by omega))
  have r5 : xR g5 58 10 = D := by rw [F5.r _ (by decide), hxe, xR_pR, if_pos ⟨rfl, rfl⟩]
  have s5 : SG g5 := gx_.fz F5
  have bs : BS g5 D := by
    rcases hD with e | e
    · rw [e]; exact s5.b1
    · rw [e]; exact s5.b2
  obtain ⟨h6, e6, F6, q6⟩ := wipe0_c bs hD
  have hd : X6_read_f 58 (nI n) D h = X6_read_B50 FU 58 (nI 0) h6 := by
    unfold X6_read_f
    rw [cv]
    have e12 : pR (pI (pI (pI (pI (pI h 58 5 (nI n)) 58 4 (nI 0)) 58 7 (nI 0)) 58 3 (nI 0)) 58 9 (nI 0)) 58 10 D = g5 := by rw [g5e, hxe, pR_pI, pR_pI, pR_pI, pR_pI, pR_pI]
    rw [G_t g.c58, LT_e, G_t g.i.c58, LT_e, G_t g.i.i.c58, LT_e, G_t g.i.i.i.c58, LT_e, G_t g.i.i.i.i.c58, LT_e, G_t g.i.i.i.i.i.c58, LT_e, e12, G_t s5.c58, r5, G_t bs.c, e6, BN_ok]
  have t6 : ∀ k, xI h6 59 k = xI h 59 k := fun k => by rw [F6.I (by omega), F5.I (by omega), hxe]; rfl
  have v5 : xI h6 58 5 = nI n := by rw [F6.I (by omega), g5e, xI_ne (by omega), xI_ne (by omega), xI_ne (by omega), xI_ne (by omega), xI_self]
  have v4 : xI h6 58 4 = nI 0 := by rw [F6.I (by omega), g5e, xI_ne (by omega), xI_ne (by omega), xI_ne (by omega), xI_self]
  have v7 : xI h6 58 7 = nI 0 := by rw [F6.I (by omega), g5e, xI_ne (by omega), xI_ne (by omega), xI_self]
  have v3 : xI h6 58 3 = nI 0 := by rw [F6.I (by omega), g5e, xI_ne (by omega), xI_self]
  have v9 : xI h6 58 9 = nI 0 := by rw [F6.I (by omega), g5e, xI_self]
  have s6 := s5.fz F6
  have r6 : xR h6 58 10 = D := by rw [F6.r _ (by decide)]; exact r5
  have c6 : CfC h6 T n := ⟨s6, v5, by omega, fun k hk => by rw [t6]; exact tp k hk, bt⟩
  have d6 : DrC h6 D B0_ [] := ⟨q6, ⟨v3, Nat.zero_le _, fun i hi => absurd hi (Nat.not_lt_zero _), fun i hi => absurd hi (Nat.not_lt_zero _), fun i hi => absurd hi (Nat.not_lt_zero _)⟩, r6, hD, rfl, fun i hi => absurd hi (Nat.not_lt_zero _), Nat.le_refl _⟩
  obtain ⟨w, h7, e7, ⟨F7, c7, t7, x7, y7⟩, j7⟩ := lines_c (n + 1) 0 h6 0 B0_ [] FU (by omega) (FU_gt (by omega)) (Nat.le_refl _) (Nat.zero_le _) c6 v7 d6
  have Fa : Fw P1_ (RdA D) h h7 := ((F0.tr (F5.fw.mo (fun a k q => q) (fun a k _ q => .inl q.1))).tr (F6.fw.mo (fun a k q => q) (fun a k _ q => by unfold RdA; omega))).tr (F7.fw.mo (fun a k q => q) (fun a k _ q => by unfold DrA NnA FlA at q; unfold RdA; omega))
  rw [hd, e7]
  refine ⟨w, h7, rfl, Fa, ?_, ?_, ?_, c7.g, ?_, t7.a, fun z => ?_, y7⟩
  · rw [F7.n, F6.n, F5.n, hxe]; rfl
  · rw [F7.s, F6.s, F5.s, hxe]; rfl
  · rw [F7.r _ (by decide)]; exact r6
  · rw [F7.I (by unfold DrA NnA FlA; omega)]; exact v4
  · obtain ⟨a1, a2, a3⟩ := x7 z
    refine ⟨a1, a2, (j7 (nI 0) ⟨v9, s6.c58⟩ (by rw [a1]; decide)).1⟩
