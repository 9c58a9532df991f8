def PlM (h : AH) (a d : Nat) (l : PlL) : Prop := ∀ i, i < l.length → xI h a i = nI (plG l i).1 ∧ xI h d i = nI (plG l i).2
def PmA (a d : Nat) : Nat → Nat → Prop := fun x k => TlM x k ∨ x = a ∨ x = d
def PmO (h h' : AH) (T : Nat → Int32) (n a d : Nat) (l : PlL) (w : Int32 ⊕ Nat) (x : Nat × Nat × PlL) : Prop := Fz (PmA a d) h h' ∧ (x.1 = 0 → w = .inl (nI (l ++ x.2.2).length) ∧ CfM h' T n ∧ CtM h' T n x.2.1 ∧ PlM h' a d (l ++ x.2.2)) ∧ (x.1 ≠ 0 → w = .inr 196 ∧ MFt h' x.1 x.2.1)
theorem BX_l {α β : Type} {a : β} {h : AH} {k : β → AH → Option ((α ⊕ Nat) × AH)} : BX (some (.inl a, h)) k = k a h := rfl
theorem BX_r {α β : Type} {a : Nat} {h : AH} {k : β → AH → Option ((α ⊕ Nat) × AH)} : BX (some (.inr a, h)) k = some (.inr a, h) := rfl
/-- the row of a place: a fault, or what is read on -/
theorem place_f {h : AH} {T : Nat → Int32} {n q m s a d i f : Nat} {N : NmL} (C : CfM h T n) (t : CtM h T n q) (b : BkM h m N) (z : faR T n N q ≠ 0) : ∃ h', X15_readPlaces_B6 (f + 1) 195 s a d (nI i) (nI 1) h = some (.inr 196, h') ∧ Fz TlM h h' ∧ MFt h' (faR T n N q) q := by
  have g := C.g
  rw [X15_readPlaces_B6, if_neg (by decide)]
  unfold faR at z ⊢
  rw [G_t g.c195, isName_m C t, BN_ok, ifB]
  by_cases y : isN T n q = true
  · rw [if_pos y] at z ⊢
    rw [if_pos y, G_t g.c195, b.r, G_t b.s.c, t.w (isN_2 y)]
    have bad : ∃ h', X15_readPlaces_B56 195 h = some (.inr 196, h') ∧ Fz TlM h h' ∧ MFt h' 2 q := by
      obtain ⟨h1, e1, F1, x1, w1⟩ := stop_m (k := 2) C t.a
      unfold X15_readPlaces_B56
      rw [G_t g.c195, e1, BN_ok, G_t x1]
      exact ⟨_, rfl, F1.mo (fun a k q => .inr q), w1⟩
    by_cases w : 4 ≤ lkV N (wdV T n q) ∧ lkV N (wdV T n q) < 99
    · rw [if_pos w] at z; exact absurd rfl z
    · rw [if_neg w]
      rcases find_m (w := wdV T n q) b.s b.u with ⟨e, fd⟩ | ⟨j, hj, e, fd⟩
      · rw [fd, BN_ok, if_pos rfl]; exact bad
      · have x := b.u.x
        have iv := b.u.v j hj
        rw [fd, BN_ok, if_neg (nI_nm (by omega)), G_t g.c195, b.r, G_t b.s.c, b.s.r9, G_t b.s.c2, b.s.z2, G_gx (by omega) (by omega), show xI h (m + 2) (nI j).toNatClampNeg = bI false by rw [nI_cl (by omega), b.u.b j hj, e, decide_eq_false (by omega)], if_pos (by decide)]
        exact bad
  · rw [if_neg y, if_neg y]
    obtain ⟨h1, e1, F1, x1, w1⟩ := stop_m (k := 1) C t.a
    unfold X15_readPlaces_B18
    rw [G_t g.c195, e1, BN_ok, G_t x1]
    exact ⟨_, rfl, F1.mo (fun a k q => .inr q), w1⟩
theorem places_m {T : Nat → Int32} {n m a d s : Nat} {N : NmL} (hs : s < 17) (ha : m + 3 < a) (hd : m + 3 < d) (ad : a ≠ d) : ∀ r i l h q f, i + r = 3 → l.length = i → r + 1 < f → CfM h T n → CtM h T n q → BkM h m N → xc h a = 16 → xz h a = 3 → xc h d = 16 → xz h d = 3 → PlM h a d l → ∃ w h', X15_readPlaces_B6 f 195 s a d (nI i) (nI 1) h = some (w, h') ∧ PmO h h' T n a d l w (plX T n N s r q) := by
  have mT : ∀ x k, TlM x k → PmA a d x k := fun x k q => .inl q
  have mS : ∀ x k, StM x k → PmA a d x k := fun x k q => .inl (.inl q)
  intro r
  induction r with
  | zero =>
    intro i l h q f hi hl hf C t b xa za xd zd v
    obtain ⟨f, rfl⟩ : ∃ g, f = g + 1 := ⟨f - 1, by omega⟩
    unfold plX
    by_cases z : faR T n N q = 0
    · obtain ⟨a1, a2, a3, a4, j, hj, fd, b2, b3⟩ := here_m C t b z
      obtain ⟨h1, e1, F1, x1, w1⟩ := stop_m (k := 5) C t.a
      rw [if_pos z, X15_readPlaces_B6, if_neg (by decide), G_t C.g.c195, a1, BN_ok, if_neg (by decide), G_t C.g.c195, b.r, G_t b.s.c, a4, fd, BN_ok, if_neg (nI_nm hj), G_t C.g.c195, b.r, G_t b.s.c, b.s.r9, G_t b.s.c2, b.s.z2, G_gx (by omega) (by omega), show xI h (m + 2) (nI j).toNatClampNeg = nI 1 by rw [nI_cl (by omega)]; exact b2, if_neg (by decide), if_pos (by rw [show i = 3 by omega])]
      unfold X15_readPlaces_B68
      rw [G_t C.g.c195, e1, BN_ok, G_t x1]
      exact ⟨_, _, rfl, F1.mo (fun a k q => .inl (.inr q)), fun z => absurd z (by show ¬ (5 : Nat) = 0; decide), fun _ => ⟨rfl, w1⟩⟩
    · obtain ⟨h1, e1, F1, w1⟩ := place_f (s := s) (a := a) (d := d) (i := i) (f := f) C t b z
      rw [if_neg z, e1]
      exact ⟨_, _, rfl, F1.mo mT, fun y => absurd y z, fun _ => ⟨rfl, w1⟩⟩
  | succ r ih =>
    intro i l h q f hi hl hf C t b xa za xd zd v
    have lo := b.s.lo
    have oS : ∀ x k, x = m ∧ k = 0 ∨ x = m + 1 ∨ x = m + 2 ∨ x = m + 3 → ¬ StM x k := fun x k => by unfold StM; omega
    have oL : ∀ x k, x = m ∧ k = 0 ∨ x = m + 1 ∨ x = m + 2 ∨ x = m + 3 → ¬ TlM x k := fun x k => by unfold TlM StM; omega
    have nT : ∀ x k, 227 ≤ x → ¬ TlM x k := fun x k => by unfold TlM StM; omega
    obtain ⟨f, rfl⟩ : ∃ g, f = g + 1 := ⟨f - 1, by omega⟩
    unfold plX plY
    by_cases z : faR T n N q = 0
    · obtain ⟨a1, a2, a3, a4, j, hj, fd, b2, b3⟩ := here_m C t b z
      obtain ⟨h1, h1e⟩ : ∃ h1, h1 = pI h a i (nI (lkV N (wdV T n q) - 4)) := ⟨_, rfl⟩
      have ph : pI h a (nI i).toNatClampNeg (xI h (m + 3) (nI j).toNatClampNeg) = h1 := by rw [h1e, nI_cl (by omega), nI_cl (by omega), b3]
      rw [if_pos z, X15_readPlaces_B6, if_neg (by decide), G_t C.g.c195, a1, BN_ok, if_neg (by decide), G_t C.g.c195, b.r, G_t b.s.c, a4, fd, BN_ok, if_neg (nI_nm hj), G_t C.g.c195, b.r, G_t b.s.c, b.s.r9, G_t b.s.c2, b.s.z2, G_gx (by omega) (by omega), show xI h (m + 2) (nI j).toNatClampNeg = nI 1 by rw [nI_cl (by omega)]; exact b2, if_neg (by decide), if_neg (by rw [nI_eI (by omega) (by omega)]; omega), G_t C.g.c195, G_t b.s.c, b.s.r10, G_t b.s.c3, b.s.z3, G_gx (by omega) (by omega), G_t xa, za, G_gx (by omega) (by omega), ph, LT_e]
      have F1 : Fz (fun x k => x = a) h h1 := by rw [h1e]; exact Fz.i rfl
      have c1 := C.fz F1 (fun x k q => by omega)
      have t1 := t.fz F1 (fun x k q => by omega)
      have b1 := b.fz F1 (fun x k q => by omega)
      obtain ⟨h2, e2, F2, c2, t2⟩ := next_t c1 t1
      have b2' := b1.fz F2 oS
      have Fa : Fz (PmA a d) h h2 := (F1.mo (fun x k q => .inr (.inl q))).tr (F2.mo mS)
      obtain ⟨w3, h3, e3, F3, x3, y3⟩ := need_m c2 t2 (show 1 < 17 by decide)
      have Fb := Fa.tr (F3.mo mT)
      rw [G_t c1.g.c195, e2, BN_ok, G_t c2.g.c195, e3]
      by_cases y : faW T n (nxT T n q) 1 = 0
      · obtain ⟨w3', c3, t3⟩ := x3 y
        have b3' := b2'.fz F3 oL
        obtain ⟨w4, h4, e4, F4, x4, y4⟩ := mach_m c3 t3 b3'
        have Fc := Fb.tr (F4.mo mT)
        rw [if_pos y, w3', BX_l, G_t c3.g.c195, e4]
        by_cases g : faM T n N (nxT T n (nxT T n q)) = 0
        · obtain ⟨w4', c4, t4⟩ := x4 g
          have b4 := b3'.fz F4 oL
          rw [if_pos g, w4', BX_l, G_t (by rw [Fc.c]; exact xd), Fc.z, zd, G_gx (by omega) (by omega), nI_cl (by omega), LT_e, nI_add, LT_e]
          obtain ⟨h5, h5e⟩ : ∃ h5, h5 = pI h4 d i (nI (lkV N (wdV T n (nxT T n (nxT T n q))))) := ⟨_, rfl⟩
          have F5 : Fz (fun x k => x = d) h4 h5 := by rw [h5e]; exact Fz.i rfl
          have c5 := c4.fz F5 (fun x k q => by omega)
          have t5 := t4.fz F5 (fun x k q => by omega)
          have b5 := b4.fz F5 (fun x k q => by omega)
          have Fd := Fc.tr (F5.mo (fun x k q => .inr (.inr q)))
          have A4 : ∀ k, xI h4 a k = xI h1 a k := fun k => by rw [F4.I (nT _ _ (by omega)), F3.I (nT _ _ (by omega)), F2.I (by unfold StM; omega)]
          have D4 : ∀ k, xI h4 d k = xI h d k := fun k => by rw [F4.I (nT _ _ (by omega)), F3.I (nT _ _ (by omega)), F2.I (by unfold StM; omega), F1.I (by omega)]
          have v5 : PlM h5 a d (l ++ [(lkV N (wdV T n q) - 4, lkV N (wdV T n (nxT T n (nxT T n q))))]) := fun j hj => by
            rw [List.length_append] at hj
            have hj : j < l.length + 1 := hj
            by_cases o : j = l.length
            · rw [o, plG_r, F5.I (by omega), A4, h5e, h1e, hl, xI_self, xI_self]; exact ⟨rfl, rfl⟩
            · rw [plG_l (by omega), F5.I (by omega), A4, h5e, xI_ne (by omega), D4, h1e, xI_ne (by omega)]; exact v j (by omega)
          rw [← h5e, G_t c5.g.c195, isWord_m c5 t5 hs, BN_ok, ifB]
          by_cases o : isW T n (nxT T n (nxT T n (nxT T n q))) s = true
          · obtain ⟨h6, e6, F6, c6, t6⟩ := next_t c5 t5
            have v6 : PlM h6 a d (l ++ [(lkV N (wdV T n q) - 4, lkV N (wdV T n (nxT T n (nxT T n q))))]) := fun j hj => by rw [F6.I (by unfold StM; omega), F6.I (by unfold StM; omega)]; exact v5 j hj
            have Fe := Fd.tr (F6.mo mS)
            rw [if_pos o, if_pos o, G_t c5.g.c195, e6, BN_ok, o]
            unfold X15_readPlaces_B126
            obtain ⟨w7, h7, e7, F7, x7, y7⟩ := ih (i + 1) (l ++ [(lkV N (wdV T n q) - 4, lkV N (wdV T n (nxT T n (nxT T n q))))]) h6 (nxT T n (nxT T n (nxT T n (nxT T n q)))) f (by omega) (by rw [List.length_append, hl]; rfl) (by omega) c6 t6 (b5.fz F6 oS) (by rw [Fe.c]; exact xa) (by rw [Fe.z]; exact za) (by rw [Fe.c]; exact xd) (by rw [Fe.z]; exact zd) v6
            refine ⟨w7, h7, e7, Fe.tr F7, fun g => ?_, y7⟩
            obtain ⟨g1, g2, g3, g4⟩ := x7 g
            rw [List.append_assoc] at g1 g4
            exact ⟨g1, g2, g3, g4⟩
          · obtain ⟨f, rfl⟩ : ∃ g, f = g + 1 := ⟨f - 1, by omega⟩
            rw [if_neg o, if_neg o]
            unfold X15_readPlaces_B126
            rw [X15_readPlaces_B6, if_pos (by rw [Bool.not_eq_true] at o; rw [o]; decide)]
            refine ⟨_, _, rfl, Fd, fun _ => ⟨?_, c5, t5, v5⟩, fun g => absurd rfl g⟩
            show _ = Sum.inl (nI (l ++ [_]).length)
            rw [List.length_append, hl]; rfl
        · obtain ⟨w4', y4⟩ := y4 g
          rw [if_neg g, w4', BX_r]
          exact ⟨_, _, rfl, Fc, fun o => absurd o g, fun _ => ⟨rfl, y4⟩⟩
      · obtain ⟨w3', y3⟩ := y3 y
        rw [if_neg y, w3', BX_r]
        exact ⟨_, _, rfl, Fb, fun o => absurd o y, fun _ => ⟨rfl, y3⟩⟩
    · obtain ⟨h1, e1, F1, w1⟩ := place_f (s := s) (a := a) (d := d) (i := i) (f := f) C t b z
      rw [if_neg z, e1]
      exact ⟨_, _, rfl, F1.mo mT, fun y => absurd y z, fun _ => ⟨rfl, w1⟩⟩
