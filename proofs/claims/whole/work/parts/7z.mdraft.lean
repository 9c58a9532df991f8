theorem askB_cg {B B' : BK} {c r : Nat} (e : B' 14 c = B 14 c) (e2 : ∀ i, B' (20 + c) i = B (20 + c) i) (e4 : ∀ i, B' (40 + c) i = B (40 + c) i) : askB B' c r = askB B c r := by
  have f2 : B' (20 + c) = B (20 + c) := funext e2
  have f4 : B' (40 + c) = B (40 + c) := funext e4
  unfold askB; rw [e, f2, f4]
theorem notB_cg {B B' : BK} {c r : Nat} (e : B' 14 c = B 14 c) (e2 : ∀ i, B' (20 + c) i = B (20 + c) i) (e4 : ∀ i, B' (40 + c) i = B (40 + c) i) : notB B' c r = notB B c r := by
  have f2 : B' (20 + c) = B (20 + c) := funext e2
  have f4 : B' (40 + c) = B (40 + c) := funext e4
  unfold notB; rw [e, f2, f4]
/-- the reference's book where only its head and its facts change -/
theorem IsMB.t {h h' : AH} {m : Nat} {B B' : BK} (q : IsMB h m B) (s' : MBS h' m) (w' : WB B') (m' : xI h' m 1 = nI (B' 0 0)) (r' : xI h' m 2 = nI (B' 1 0)) (f' : xI h' m 3 = nI (B' 2 0)) (y' : xI h' m 4 = nI (B' 5 0)) (k' : xI h' m 7 = nI (B' 6 0)) (fw' : ∀ i, i < B' 2 0 → xI h' (m + 4) i = nI (B' 7 i)) (fm' : ∀ i, i < B' 2 0 → xI h' (m + 5) i = nI (B' 8 i)) (fy' : ∀ i, i < B' 2 0 → xI h' (m + 6) i = nI (B' 9 i) - nI 1) (H : ∀ x k, m + 7 ≤ x ∧ x ≤ m + 18 ∨ x = m ∧ (k = 5 ∨ k = 6 ∨ k = 22 ∨ k = 23) → xI h' x k = xI h x k) (E : ∀ k i, 10 ≤ k ∨ k = 3 ∨ k = 4 → B' k i = B k i) : IsMB h' m B' := by
  have e3 : B' 3 0 = B 3 0 := E _ _ (by omega)
  have e4 : B' 4 0 = B 4 0 := E _ _ (by omega)
  have e6 : B' 60 0 = B 60 0 := E _ _ (by omega)
  have e7 : B' 61 0 = B 61 0 := E _ _ (by omega)
  refine ⟨s', w', m', r', f', y', by rw [H _ _ (by omega), e3]; exact q.u, by rw [H _ _ (by omega), e4]; exact q.sn, k', by rw [H _ _ (by omega), e6]; exact q.ne, by rw [H _ _ (by omega), e7]; exact q.no, fw', fm', fy', fun i hi => ?_, fun i hi => ?_, fun i hi => ?_, fun i hi => ?_, fun i hi => ?_, fun i hi => ?_, fun c hc r hr => ?_, fun c hc r hr => ?_, fun i hi => ?_, fun i hi => ?_, fun i hi => ?_, fun i hi => ?_⟩
  · rw [H _ _ (by omega), E _ _ (by omega)]; exact q.rr i (by omega)
  · rw [H _ _ (by omega), E _ _ (by omega)]; exact q.ra i (by omega)
  · rw [H _ _ (by omega), E _ _ (by omega)]; exact q.rn i (by omega)
  · rw [H _ _ (by omega), E _ _ (by omega)]; exact q.sr i (by omega)
  · rw [H _ _ (by omega), E _ _ (by omega)]; exact q.st i (by omega)
  · rw [H _ _ (by omega), E _ _ (by omega)]; exact q.sa i (by omega)
  · rw [H _ _ (by omega), askB_cg (E _ _ (by omega)) (fun i => E _ _ (by omega)) (fun i => E _ _ (by omega))]; exact q.ka c (by omega) r hr
  · rw [H _ _ (by omega), notB_cg (E _ _ (by omega)) (fun i => E _ _ (by omega)) (fun i => E _ _ (by omega))]; exact q.kn c (by omega) r hr
  · rw [H _ _ (by omega), E _ _ (by omega)]; exact q.er i (by omega)
  · rw [H _ _ (by omega), E _ _ (by omega)]; exact q.ea i (by omega)
  · rw [H _ _ (by omega), E _ _ (by omega)]; exact q.or i (by omega)
  · rw [H _ _ (by omega), E _ _ (by omega)]; exact q.oa i (by omega)
/-- the reference's draft while it reads -/
def DrM (h : AH) (m : Nat) (B : BK) (N : NmL) : Prop := (IsMB h m B) ∧ (BkM h m N) ∧ (N.length = B 0 0 + B 1 0) ∧ (∀ i, i < N.length → ((nmA N i).2 < 4 → (nmA N i).2 < B 0 0) ∧ (4 ≤ (nmA N i).2 → (nmA N i).2 - 4 < B 1 0)) ∧ (B 5 0 ≤ B 2 0) ∧ (∀ c, c < 16 → ¬ (c < B 3 0 ∨ (10 ≤ c ∧ c < 10 + B 4 0)) → xI h (m + 13) c = nI 0 ∧ xI h (m + 14) c = nI 0)
theorem DrM.q {h : AH} {m : Nat} {B : BK} {N : NmL} (q_ : DrM h m B N) : IsMB h m B := q_.1
theorem DrM.u {h : AH} {m : Nat} {B : BK} {N : NmL} (q_ : DrM h m B N) : BkM h m N := q_.2.1
theorem DrM.l {h : AH} {m : Nat} {B : BK} {N : NmL} (q_ : DrM h m B N) : N.length = B 0 0 + B 1 0 := q_.2.2.1
theorem DrM.v {h : AH} {m : Nat} {B : BK} {N : NmL} (q_ : DrM h m B N) : ∀ i, i < N.length → ((nmA N i).2 < 4 → (nmA N i).2 < B 0 0) ∧ (4 ≤ (nmA N i).2 → (nmA N i).2 - 4 < B 1 0) := q_.2.2.2.1
theorem DrM.y {h : AH} {m : Nat} {B : BK} {N : NmL} (q_ : DrM h m B N) : B 5 0 ≤ B 2 0 := q_.2.2.2.2.1
theorem DrM.k {h : AH} {m : Nat} {B : BK} {N : NmL} (q_ : DrM h m B N) : ∀ c, c < 16 → ¬ (c < B 3 0 ∨ (10 ≤ c ∧ c < 10 + B 4 0)) → xI h (m + 13) c = nI 0 ∧ xI h (m + 14) c = nI 0 := q_.2.2.2.2.2
def DmA (m : Nat) : Nat → Nat → Prop := fun x k => TlM x k ∨ (m ≤ x ∧ x ≤ m + 18)
theorem DrM.ro {h : AH} {m : Nat} {B : BK} {N : NmL} {w : Int64} (d : DrM h m B N) (l : 4 ≤ lkV N w) (u : lkV N w < 99) : lkV N w - 4 < B 1 0 := by
  obtain ⟨i, hi, e⟩ := lkV_i (N := N) (w := w) (by omega)
  have := (d.v i hi).2
  rw [e] at this
  exact this l
theorem DrM.ma {h : AH} {m : Nat} {B : BK} {N : NmL} {w : Int64} (d : DrM h m B N) (u : lkV N w < 4) : lkV N w < B 0 0 := by
  obtain ⟨i, hi, e⟩ := lkV_i (N := N) (w := w) (by omega)
  have := (d.v i hi).1
  rw [e] at this
  exact this u
theorem faR_0 {T : Nat → Int32} {n q : Nat} {N : NmL} (z : faR T n N q = 0) : 4 ≤ lkV N (wdV T n q) ∧ lkV N (wdV T n q) < 99 := by
  unfold faR at z
  by_cases k : isN T n q = true
  · rw [if_pos k] at z
    by_cases w : 4 ≤ lkV N (wdV T n q) ∧ lkV N (wdV T n q) < 99
    · exact w
    · rw [if_neg w] at z; exact absurd z (by decide)
  · rw [if_neg k] at z; exact absurd z (by decide)
theorem faM_0 {T : Nat → Int32} {n q : Nat} {N : NmL} (z : faM T n N q = 0) : lkV N (wdV T n q) < 4 := by
  unfold faM at z
  by_cases k : isN T n q = true
  · rw [if_pos k] at z
    by_cases w : lkV N (wdV T n q) < 4
    · exact w
    · rw [if_neg w] at z; exact absurd z (by decide)
  · rw [if_neg k] at z; exact absurd z (by decide)
theorem DrM.fz {A : Nat → Nat → Prop} {h h' : AH} {m : Nat} {B : BK} {N : NmL} (F : Fz A h h') (n : ∀ x k, m ≤ x → ¬ A x k) (d : DrM h m B N) : DrM h' m B N := ⟨d.q.fz F (fun k j _ => n _ _ (Nat.le_add_right _ _)), d.u.fz F (fun x k q => n x k (by omega)), d.l, d.v, d.y, fun c hc k => by rw [F.I (n _ _ (by omega)), F.I (n _ _ (by omega))]; exact d.k c hc k⟩
theorem nTl {m x k : Nat} (lo : 227 ≤ m) (h : m ≤ x) : ¬ TlM x k := by unfold TlM StM; omega
theorem nSt {m x k : Nat} (lo : 227 ≤ m) (h : m ≤ x) : ¬ StM x k := by unfold StM; omega
/-- a line of the reference: stopped, or read up to its end -/
def MnO (h h' : AH) (T : Nat → Int32) (n m : Nat) (r : Unit ⊕ Nat) (x : LnR) : Prop := Fz (DmA m) h h' ∧ ((r = .inr 196 ∧ x.1 ≠ 0 ∧ MFt h' x.1 x.2.1) ∨ (r = .inl () ∧ x.1 = faE T n x.2.1 ∧ CfM h' T n ∧ CtM h' T n x.2.1 ∧ DrM h' m x.2.2.1 x.2.2.2))
theorem mstop {h0 h : AH} {T : Nat → Int32} {n p m k : Nat} {B : BK} {N : NmL} (F : Fz (DmA m) h0 h) (c : CfM h T n) (a : xI h 195 12 = nI p) (hk : k ≠ 0) : ∃ h', X15_stop_f 195 (nI k) h = some (196, h') ∧ xc h' 196 = 14 ∧ MnO h0 h' T n m (.inr 196) (k, p, B, N) := by
  obtain ⟨h1, e1, F1, x1, w1⟩ := stop_m (k := k) c a
  exact ⟨h1, e1, x1, F.tr (F1.mo (fun a k q => .inl (.inr q))), .inl ⟨rfl, hk, w1⟩⟩
theorem CfM.dm {h h' : AH} {T : Nat → Int32} {n m : Nat} {A : Nat → Nat → Prop} (F : Fz A h h') (o : ∀ x k, A x k → m ≤ x) (lo : 227 ≤ m) (c : CfM h T n) : CfM h' T n := c.fz F (fun x k q g => by have := o x k g; omega)
theorem CtM.dm {h h' : AH} {T : Nat → Int32} {n m p : Nat} {A : Nat → Nat → Prop} (F : Fz A h h') (o : ∀ x k, A x k → m ≤ x) (lo : 227 ≤ m) (c : CtM h T n p) : CtM h' T n p := c.fz F (fun x k q g => by have := o x k g; omega)
/-- a name told: the names -/
theorem nm69_m {h : AH} {T : Nat → Int32} {n m v : Nat} {N : NmL} {w : Int64} {bw : Bool} (c : CfM h T n) (b : BkM h m N) (hw : xL h 195 13 = w) (hl : N.length < 14) (hv : v < 14) (hb : decide (4 ≤ v) = bw) : ∃ h4, X15_readName_B69 195 (bI bw) (nI (if 4 ≤ v then v - 4 else v)) h = X15_readName_B167 195 (bI bw) (nI (if 4 ≤ v then v - 4 else v)) (pI h4 m (if bw = true then 2 else 1) (xI h m (if bw = true then 2 else 1) + nI 1)) ∧ Fz (fun x k => x = m ∧ k = 0 ∨ x = m + 1 ∨ x = m + 2 ∨ x = m + 3) h h4 ∧ BkM h4 m (N ++ [(w, v)]) := by
  have lo := b.s.lo
  have nar : vp_nar .boolean (bI bw) = bI bw := by cases bw <;> rfl
  obtain ⟨x0, hx0⟩ : ∃ x0, x0 = (if 4 ≤ v then v - 4 else v) := ⟨_, rfl⟩
  rw [← hx0]
  unfold X15_readName_B69
  rw [G_t c.g.c195, b.r, G_t b.s.c, b.s.r8, G_t b.s.c1, b.s.z1, b.u.n, G_gx hl (by omega), nI_cl (by omega), hw, LT_e]
  obtain ⟨h1, h1e⟩ : ∃ h1, h1 = pL h (m + 1) N.length w := ⟨_, rfl⟩
  have F1 : Fz (fun x k => x = m + 1) h h1 := by rw [h1e]; exact Fz.l rfl
  have s1 := b.s.fz F1
  have g1 := c.g.fz F1
  have r1 : xR h1 195 5 = m := by rw [F1.r _ (by decide)]; exact b.r
  have n1 : xI h1 m 0 = nI N.length := by rw [F1.I (by omega)]; exact b.u.n
  rw [← h1e, G_t g1.c195, r1, G_t s1.c, s1.r9, G_t s1.c2, s1.z2, n1, G_gx hl (by omega), nI_cl (by omega), nar, LT_e]
  obtain ⟨h2, h2e⟩ : ∃ h2, h2 = pI h1 (m + 2) N.length (bI bw) := ⟨_, rfl⟩
  have F2 : Fz (fun x k => x = m + 2) h1 h2 := by rw [h2e]; exact Fz.i rfl
  have s2 := s1.fz F2
  have g2 := g1.fz F2
  have r2 : xR h2 195 5 = m := by rw [F2.r _ (by decide)]; exact r1
  have n2 : xI h2 m 0 = nI N.length := by rw [F2.I (by omega)]; exact n1
  rw [← h2e, G_t g2.c195, r2, G_t s2.c, s2.r10, G_t s2.c3, s2.z3, n2, G_gx hl (by omega), nI_cl (by omega), LT_e]
  obtain ⟨h3, h3e⟩ : ∃ h3, h3 = pI h2 (m + 3) N.length (nI x0) := ⟨_, rfl⟩
  have F3 : Fz (fun x k => x = m + 3) h2 h3 := by rw [h3e]; exact Fz.i rfl
  have s3 := s2.fz F3
  have g3 := g2.fz F3
  have r3 : xR h3 195 5 = m := by rw [F3.r _ (by decide)]; exact r2
  have n3 : xI h3 m 0 = nI N.length := by rw [F3.I (by omega)]; exact n2
  rw [← h3e, G_t g3.c195, r3, G_t s3.c, n3, nI_add, LT_e]
  obtain ⟨h4, h4e⟩ : ∃ h4, h4 = pI h3 m 0 (nI (N.length + 1)) := ⟨_, rfl⟩
  have F4 : Fz (fun x k => x = m ∧ k = 0) h3 h4 := by rw [h4e]; exact Fz.i ⟨rfl, rfl⟩
  have s4 := s3.fz F4
  have g4 := g3.fz F4
  have r4 : xR h4 195 5 = m := by rw [F4.r _ (by decide)]; exact r3
  have I4 : ∀ k, k ≠ 0 → xI h4 m k = xI h m k := fun k hk => by rw [F4.I (by omega), F3.I (by omega), F2.I (by omega), F1.I (by omega)]
  have ll : (N ++ [(w, v)]).length = N.length + 1 := by rw [List.length_append]; rfl
  refine ⟨h4, ?_, (((F1.mo (fun x k q => by omega)).tr (F2.mo (fun x k q => by omega))).tr (F3.mo (fun x k q => by omega))).tr (F4.mo (fun x k q => by omega)), r4, s4, ?_⟩
  · rw [← h4e, ifB]
    cases bw with
    | false => rw [if_neg (by decide), if_neg (by decide), G_t g4.c195, r4, G_t s4.c, I4 _ (by decide), LT_e]
    | true => rw [if_pos rfl, if_pos rfl, G_t g4.c195, r4, G_t s4.c, I4 _ (by decide), LT_e]
  · refine ⟨by rw [h4e, xI_self, ll], by omega, fun i hi => ?_, fun i hi => ?_, fun i hi => ?_, fun i hi => ?_⟩
    · rw [F4.L (by omega), F3.L (by omega), F2.L (by omega)]
      by_cases j : i = N.length
      · rw [j, nmA_r, h1e, xL_pL, if_pos ⟨rfl, rfl⟩]
      · rw [nmA_l (by omega), h1e, xL_pL, if_neg (by omega)]; exact b.u.w i (by omega)
    · rw [F4.I (by omega), F3.I (by omega)]
      by_cases j : i = N.length
      · rw [j, nmA_r, h2e, xI_self, ← hb]
      · rw [nmA_l (by omega), h2e, xI_ne (by omega), F1.I (by omega)]; exact b.u.b i (by omega)
    · rw [F4.I (by omega)]
      by_cases j : i = N.length
      · rw [j, nmA_r, h3e, xI_self, hx0]
      · rw [nmA_l (by omega), h3e, xI_ne (by omega), F2.I (by omega), F1.I (by omega)]; exact b.u.m i (by omega)
    · by_cases j : i = N.length
      · rw [j, nmA_r]; exact hv
      · rw [nmA_l (by omega)]; exact b.u.v i (by omega)
/-- up to the name: the fault, or the names' row -/
theorem name_m {h : AH} {T : Nat → Int32} {n p m : Nat} {B : BK} {N : NmL} {bw : Bool} (c : CfM h T n) (t : CtM h T n p) (d : DrM h m B N) : (faN T n N (nxT T n p) ≠ 0 → ∃ h', X15_readName_f 195 (bI bw) (nI 0) h = some (.inr 196, h') ∧ MnO h h' T n m (.inr 196) (faN T n N (nxT T n p), nxT T n p, B, N)) ∧ (faN T n N (nxT T n p) = 0 → ∃ h1, X15_readName_f 195 (bI bw) (nI 0) h = X15_readName_B69 195 (bI bw) (nI (if bw = true then B 1 0 else B 0 0)) h1 ∧ Fz StM h h1 ∧ CfM h1 T n ∧ CtM h1 T n (nxT T n p) ∧ DrM h1 m B N ∧ tkK T n (nxT T n p) = 2) := by
  have lo := d.q.s.lo
  obtain ⟨h1, e1, F1, c1, t1⟩ := next_t c t
  have d1 := d.fz F1 (fun x k q => nSt lo q)
  have G1 : Fz (DmA m) h h1 := F1.mo (fun x k q => .inl (.inl q))
  generalize nxT T n p = q at *
  have hd : X15_readName_f 195 (bI bw) (nI 0) h = if isN T n q = true then BN (X12_find_f m (xL h1 195 13) h1) (fun v9 h8 => if v9 = (-1) then (if bI bw = 0 then (G (xc h8 195 = 15) <| G (xc h8 (xR h8 195 5) = 12) <| X15_readName_B69 195 (bI bw) (xI h8 (xR h8 195 5) 1) h8) else (G (xc h8 195 = 15) <| G (xc h8 (xR h8 195 5) = 12) <| X15_readName_B69 195 (bI bw) (xI h8 (xR h8 195 5) 2) h8)) else (G (xc h8 195 = 15) <| BN (X15_stop_f 195 (nI 3) h8) fun r16 h15 => G (xc h15 r16 = 14) <| some (.inr r16, h15))) else (BN (X15_stop_f 195 (nI 1) h1) fun r20 h19 => G (xc h19 r20 = 14) <| some (.inr r20, h19)) := by
    unfold X15_readName_f
    rw [if_pos (by decide), G_t c.g.c195, e1, BN_ok, G_t c1.g.c195, isName_m c1 t1, BN_ok, ifB, G_t c1.g.c195, d1.u.r, G_t d1.q.s.c, G_t c1.g.c195]
  rw [hd]
  unfold faN
  by_cases k : isN T n q = true
  · have k2 := isN_2 k
    rw [if_pos k, if_pos k, t1.w k2]
    rcases find_m (w := wdV T n q) d1.q.s d1.u.u with ⟨e, f⟩ | ⟨i, hi, e, f⟩
    · refine ⟨fun z => absurd (if_pos e) z, fun _ => ⟨h1, ?_, F1, c1, t1, d1, k2⟩⟩
      rw [f, BN_ok, if_pos rfl, ifB, G_t c1.g.c195, d1.u.r, G_t d1.q.s.c, G_t c1.g.c195, G_t d1.q.s.c, d1.q.m, d1.q.r]
      cases bw <;> rfl
    · have iv := d1.u.u.v i hi
      have il := d1.u.u.x
      rw [if_neg (by omega), f, BN_ok, if_neg (nI_nm (by omega)), G_t c1.g.c195]
      refine ⟨fun z => ?_, fun z => absurd z (by decide)⟩
      obtain ⟨h2, e2, x2, o2⟩ := mstop (B := B) (N := N) (k := 3) G1 c1 t1.a (by decide)
      rw [e2, BN_ok, G_t x2]
      exact ⟨_, rfl, o2⟩
  · rw [if_neg k, if_neg k]
    refine ⟨fun z => ?_, fun z => absurd z (by decide)⟩
    obtain ⟨h2, e2, x2, o2⟩ := mstop (B := B) (N := N) (k := 1) G1 c1 t1.a (by decide)
    rw [e2, BN_ok, G_t x2]
    exact ⟨_, rfl, o2⟩
