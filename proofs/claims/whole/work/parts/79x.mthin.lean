theorem IsSl.fz {A : Nat → Nat → Prop} {h h' : AH} {k : Nat} {p : PR} {f : FL} (F : Fz A h h') (n : ∀ a j, 210 ≤ a → a ≤ 214 → ¬ A a j) (q : IsSl h k p f) : IsSl h' k p f := by
  have := q
  unfold IsSl SlD at *
  simp only [F.I (n 210 _ (by decide) (by decide)), F.I (n 211 _ (by decide) (by decide)), F.I (n 212 _ (by decide) (by decide)), F.I (n 213 _ (by decide) (by decide)), F.I (n 214 _ (by decide) (by decide))]
  exact this
def ThF : Nat → Nat → Prop := fun a _ => a = 218 ∨ a = 219 ∨ (207 ≤ a ∧ a ≤ 209) ∨ a = 216
theorem ThF_n {a k : Nat} (c : ThF a k) : a < 227 ∧ a ≠ 198 ∧ (a = 195 → k = 36 ∨ k = 42 ∨ k = 43 ∨ k ≤ 2) := by unfold ThF at c; omega
/-- a set is put to a formula of the reference -/
theorem spoil_set {h : AH} {b s v k : Nat} {p : PR} {r : NN_} {a : List Nat} {f : FL} (C : MaX h b p r) (hs : s ≤ 3) (N120 : a.length ≤ 120) (ao : ∀ y, y ∈ a → OKf y) (i : ItM h a r s v) : ∃ h', X13_lay_f 206 219 (nI 0) (nI s) h = some ((), h') ∧ Fr (fun x => 207 ≤ x ∧ x ≤ 209) h h' ∧ IsH h' 206 (flOf (sL a s v)) := by
  have V : vld a.length (sD s v) = true := by have := i.p; unfold PS at this; exact ((Bool.and_eq_true _ _).mp this).1
  have ll := sL_len (a := a) (v := v) hs
  have z := C.c.s.z219
  have := lay_ok (i0 := 0) (l := sL a s v) C.c.s.h2 C.c.s.c219 (by omega) (by omega) i.e (OKf_sL hs N120 ao V) (by decide)
  rw [ll] at this
  exact this
theorem thm_in {b s : Nat} {p : PR} {r : NN_} {a : List Nat} {below : Nat} (K : Nat → Int32 → Int32 → AH → Option (Int32 × AH)) (hs1 : 1 ≤ s) (hs : s ≤ 3) (N120 : a.length ≤ 120) (ao : ∀ y, y ∈ a → OKf y) : ∀ g c n fl (h : AH), (seg a r s c (128 ^ s - c)).length ≤ g → g < n → MaX h b p r → AlM h a → NxM h a r s c fl → IsSl h 1 p (flOf []) → ∃ h', (X15_thinOf_B13 K n 195 (nI below) (nI s) (bI fl) h = match thL (spQ p) (seg a r s c (128 ^ s - c)) with
    | some _ => some (nI s, h')
    | none => X15_thinOf_B49 K 195 (nI below) (nI s) h') ∧ Fz ThF h h' := by
  have ao4 : ∀ d, d ∈ a → d < 400 := fun d hd => (ao d hd).1
  intro g
  induction g with
  | zero =>
    intro c n fl h hl hn C q nx E
    obtain ⟨n, rfl⟩ : ∃ q, n = q + 1 := ⟨n - 1, by omega⟩
    rcases nx with ⟨rfl, nil⟩ | ⟨rfl, w, _, cons, _⟩
    · refine ⟨h, ?_, Fz.rf⟩
      rw [X15_thinOf_B13, if_pos (by decide), nil]; rfl
    · rw [cons] at hl
      have : (seg a r s (w + 1) (128 ^ s - (w + 1))).length + 1 ≤ 0 := hl
      omega
  | succ g ih =>
    intro c n fl h hl hn C q nx E
    obtain ⟨n, rfl⟩ : ∃ q, n = q + 1 := ⟨n - 1, by omega⟩
    rcases nx with ⟨rfl, nil⟩ | ⟨rfl, w, _, cons, it⟩
    · refine ⟨h, ?_, Fz.rf⟩
      rw [X15_thinOf_B13, if_pos (by decide), nil]; rfl
    · rw [cons] at hl ⊢
      have hl : (seg a r s (w + 1) (128 ^ s - (w + 1))).length + 1 ≤ g + 1 := hl
      have sg := C.c.s
      obtain ⟨h2, e2, F2, H2⟩ := spoil_set (k := 1) (f := flOf []) C hs N120 ao it
      have FF2 : Fz ThF h h2 := F2.q.f.mo (fun a k q => by unfold ThF; omega)
      have C2 := C.fz FF2 (fun a k c => ThF_n c)
      have E2 : IsSl h2 1 p (flOf []) := E.fz FF2 (fun a j c1 c2 => by unfold ThF; omega)
      obtain ⟨h3, e3, F3⟩ := isSpoilt_m ⟨C2.c, E2, H2, (by decide : 1 < 104)⟩
      have FF3 : Fz ThF h h3 := FF2.tr (F3.q.f.mo (fun a k q => by unfold ThF; omega))
      have C3 := C.fz FF3 (fun a k c => ThF_n c)
      have q3 := q.fz FF3 (fun a k c => by unfold ThF; omega)
      have it3 : ItM h3 a r s w := (it.fz F2.q.f (fun x k c => by omega)).fz F3.q.f (fun x k c => by omega)
      have E3 : IsSl h3 1 p (flOf []) := E.fz FF3 (fun a j c1 c2 => by unfold ThF; omega)
      have hdr : X15_thinOf_B13 K (n + 1) 195 (nI below) (nI s) (bI true) h = if bI (spo p (flOf []) (flOf (sL a s w))) = 0 then (G (xc h3 195 = 15) <| BN (X15_goesOn_f 195 (nI s) h3) fun v9 h8 => X15_thinOf_B13 K n 195 (nI below) (nI s) v9 h8) else some (nI s, h3) := by
        rw [X15_thinOf_B13, if_neg (by decide), G_t sg.c195, sg.r195_27, G_t sg.c206, sg.r195_39, e2, BN_ok, G_t C2.c.s.c195, e3, BN_ok]
      rw [hdr, thL]
      unfold spQ
      cases so : spo p (flOf []) (flOf (sL a s w))
      · obtain ⟨c9, h8, e8, F8, nx8⟩ := goes2_m hs1 hs N120 ao4 C3 q3 it3
        have FF8 : Fz ThF h3 h8 := F8.mo (fun a k q => by unfold MsA at q; unfold ThF; omega)
        obtain ⟨h9, e9, F9⟩ := ih (w + 1) n c9 h8 (by omega) (by omega) (C3.fz FF8 (fun a k c => ThF_n c)) (q3.fz FF8 (fun a k c => by unfold ThF; omega)) nx8 (E3.fz FF8 (fun a j c1 c2 => by unfold ThF; omega))
        refine ⟨h9, ?_, (FF3.tr FF8).tr F9⟩
        rw [if_pos (by decide), G_t C3.c.s.c195, e8, BN_ok]
        exact e9
      · refine ⟨h3, ?_, FF3⟩
        rw [if_neg (by decide)]; rfl
theorem thm_out {b : Nat} {p : PR} {r : NN_} {a : List Nat} {below : Nat} (N120 : a.length ≤ 120) (ao : ∀ y, y ∈ a → OKf y) (bl : below ≤ 4) : ∀ j s n (h : AH), 1 ≤ s → s + j = below → j < n → MaX h b p r → AlM h a → IsSl h 1 p (flOf []) → ∃ h', X15_thinOf_B2 n 195 (nI below) (nI s) h = some (nI ((thL (spQ p) (ups a r s j)).getD below), h') ∧ Fz ThF h h' := by
  have ao4 : ∀ d, d ∈ a → d < 400 := fun d hd => (ao d hd).1
  intro j
  induction j with
  | zero =>
    intro s n h hs1 hs hn C q E
    obtain ⟨n, rfl⟩ : ∃ q, n = q + 1 := ⟨n - 1, by omega⟩
    refine ⟨h, ?_, Fz.rf⟩
    rw [X15_thinOf_B2, if_pos (by rw [nI_lI (by omega) (by omega)]; omega)]; rfl
  | succ j ih =>
    intro s n h hs1 hs hn C q E
    obtain ⟨n, rfl⟩ : ∃ q, n = q + 1 := ⟨n - 1, by omega⟩
    have s3 : s ≤ 3 := by omega
    have p3 := p128_le s3
    obtain ⟨c1, h1, e1, F1, nx1⟩ := begins_m hs1 s3 N120 ao4 C q
    have FF1 : Fz ThF h h1 := F1.mo (fun a k q => by unfold MsA at q; unfold ThF; omega)
    have C1 := C.fz FF1 (fun a k c => ThF_n c)
    have q1 := q.fz FF1 (fun a k c => by unfold ThF; omega)
    have E1 : IsSl h1 1 p (flOf []) := E.fz FF1 (fun a j c1 c2 => by unfold ThF; omega)
    have sl := seg_len (a := a) (r := r) (s := s) (lo := 0) (n := 128 ^ s - 0)
    obtain ⟨h2, e2, F2⟩ := thm_in (below := below) (X15_thinOf_B2 n) hs1 s3 N120 ao (128 ^ s) 0 FU c1 h1 (by omega) (FU_gt (by omega)) C1 q1 nx1 E1
    rw [Nat.sub_zero] at e2
    have hdr : X15_thinOf_B2 (n + 1) 195 (nI below) (nI s) h = X15_thinOf_B13 (X15_thinOf_B2 n) FU 195 (nI below) (nI s) (bI c1) h1 := by
      rw [X15_thinOf_B2, if_neg (by rw [nI_lI (by omega) (by omega)]; omega), G_t C.c.s.c195, e1, BN_ok]
    rw [hdr, e2, ups_s, thL_app]
    cases hx : thL (spQ p) (seg a r s 0 (128 ^ s)) with
    | some x =>
      obtain ⟨l, hl, e⟩ := thL_mem _ hx
      obtain ⟨v, _, _, _, rfl⟩ := seg_mem hl
      rw [sL_len s3] at e
      subst e
      exact ⟨h2, rfl, FF1.tr F2⟩
    | none =>
      obtain ⟨h3, e3, F3⟩ := ih (s + 1) n h2 (by omega) (by omega) (by omega) (C1.fz F2 (fun a k c => ThF_n c)) (q1.fz F2 (fun a k c => by unfold ThF; omega)) (E1.fz F2 (fun a j c1 c2 => by unfold ThF; omega))
      refine ⟨h3, ?_, (FF1.tr F2).tr F3⟩
      show X15_thinOf_B49 (X15_thinOf_B2 n) 195 (nI below) (nI s) h2 = _
      unfold X15_thinOf_B49
      rw [LT_e, nI_add]; exact e3
/-- the reference's starts -/
def ThR : Nat → Nat → Prop := fun a k => ThF a k ∨ a = 195 ∧ k = 15 ∨ (203 ≤ a ∧ a ≤ 205) ∨ (210 ≤ a ∧ a ≤ 214)
def lsO (T : Nat) : Option (Nat × Nat) → Nat
  | none => T + 1
  | some x => x.2
theorem MaX.st {h h' : AH} {b k : Nat} {p : PR} {r : NN_} (F : Fz ThR h h') (e : xI h' 195 15 = nI k) (C : MaX h b p r) : MaX h' b (pst p k) r := by
  have lo := C.c.q.s.lo
  have M := C.c
  have nA : ∀ a j, ¬ (ThF a j ∨ a = 195 ∧ j = 15 ∨ (203 ≤ a ∧ a ≤ 205) ∨ (210 ≤ a ∧ a ≤ 214)) → ¬ ThR a j := fun _ _ q => q
  exact ⟨⟨M.s.fz F, M.q.fz F (fun k j hk => nA _ _ (by unfold ThF; omega)), by rw [F.r _ (by decide)]; exact M.r4, by rw [F.I (nA _ _ (by unfold ThF; omega))]; exact M.l, e, by rw [F.I (nA _ _ (by unfold ThF; omega))]; exact M.K, by rw [F.I (nA _ _ (by unfold ThF; omega))]; exact M.A, by rw [F.I (nA _ _ (by unfold ThF; omega))]; exact M.B, M.n, M.x⟩, fun k hk => by rw [F.I (nA _ _ (by unfold ThF; omega))]; exact C.u k hk, C.x⟩
theorem thm_st {h0 : AH} {b : Nat} {p : PR} {r : NN_} {was : Int32} (N120 : (alF p r).length ≤ 120) (ao : ∀ y, y ∈ alF p r → OKf y) (C0 : MaX h0 b p r) (q0 : AlM h0 (alF p r)) : ∀ j k n (h : AH), k + j = 2 ^ p.1 5 0 → j < n → Fz ThR h0 h → ∃ h', X15_thin_B48 n 195 was (leV ((thO p r (r 0 + r 1 + r 2 + r 3) k).map Prod.fst)) (nI (lsO (r 0 + r 1 + r 2 + r 3) (thO p r (r 0 + r 1 + r 2 + r 3) k))) (nI k) h = X15_thin_B113 195 was (leV ((thO p r (r 0 + r 1 + r 2 + r 3) (2 ^ p.1 5 0)).map Prod.fst)) (nI (lsO (r 0 + r 1 + r 2 + r 3) (thO p r (r 0 + r 1 + r 2 + r 3) (2 ^ p.1 5 0)))) h' ∧ Fz ThR h0 h' := by
  have x := C0.x
  have wy := C0.c.q.w.y
  have p10 : 2 ^ p.1 5 0 ≤ 2 ^ 10 := Nat.pow_le_pow_right (by decide) wy
  intro j
  induction j with
  | zero =>
    intro k n h hk hn F
    obtain ⟨n, rfl⟩ : ∃ q, n = q + 1 := ⟨n - 1, by omega⟩
    have s := C0.c.s.fz F
    have lo := C0.c.q.s.lo
    have M4 : xR h 195 4 = b := by rw [F.r _ (by decide)]; exact C0.c.r4
    have q := C0.c.q.fz F (fun k j hk => by unfold ThR ThF; omega)
    have ek : k = 2 ^ p.1 5 0 := by omega
    refine ⟨h, ?_, F⟩
    rw [X15_thin_B48]
    rw [G_t s.c195, M4, G_t q.s.c, q.y, shl1 _ (by omega), if_pos (by rw [nI_lI (by omega) (by omega)]; omega), ek]
  | succ j ih =>
    intro k n h hk hn F
    obtain ⟨n, rfl⟩ : ∃ q, n = q + 1 := ⟨n - 1, by omega⟩
    have s := C0.c.s.fz F
    have lo := C0.c.q.s.lo
    have M4 : xR h 195 4 = b := by rw [F.r _ (by decide)]; exact C0.c.r4
    have q := C0.c.q.fz F (fun k j hk => by unfold ThR ThF; omega)
    have F2 : Fz ThR h0 (pI h 195 15 (nI k)) := F.tr (Fz.i (by unfold ThR; omega))
    have C2 : MaX (pI h 195 15 (nI k)) b (pst p k) r := C0.st F2 xI_self
    have hT : thO p r (r 0 + r 1 + r 2 + r 3) (k + 1) = thS p r (r 0 + r 1 + r 2 + r 3) (thO p r (r 0 + r 1 + r 2 + r 3) k) k := rfl
    have tb := thO_b (p := p) (r := r) x k
    generalize thO p r (r 0 + r 1 + r 2 + r 3) k = o at hT tb ⊢
    obtain ⟨h3, e3, F3, _, s3⟩ := runs_m (k := 1) (i0 := 0) (l := []) C2.c (by decide) C2.c.s.c199 (Nat.zero_le _) (by decide) (fun i hi => absurd hi (Nat.not_lt_zero _)) (fun d hd => absurd hd List.not_mem_nil) (by decide)
    have ob := outB_le (p := pst p k) (f := flOf [])
    have FF3 : Fz ThR h0 h3 := F2.tr (F3.q.f.mo (fun a k q => by unfold ThR; omega))
    have C3 : MaX h3 b (pst p k) r := C0.st FF3 (by rw [F3.I _ (by decide), xI_self])
    have q3 : AlM h3 (alF p r) := q0.fz FF3 (fun a k c => by unfold ThR ThF; omega)
    have e3 : X15_runs_f 195 (nI 1) 199 (nI 0) (nI 0) (pI h 195 15 (nI k)) = some (nI (outB (pst p k) (flOf [])), h3) := e3
    have nx : ∀ b1 l1 h', X15_thin_B107 (X15_thin_B48 n) 195 was b1 l1 (nI k) h' = X15_thin_B48 n 195 was b1 l1 (nI (k + 1)) h' := fun b1 l1 h' => by
      unfold X15_thin_B107
      rw [LT_e, nI_add]
    have hdr : ∀ b1 l1, X15_thin_B48 (n + 1) 195 was b1 l1 (nI k) h = if nI (outB (pst p k) (flOf [])) = 0 then (G (xc h3 195 = 15) <| BN (X15_thinOf_f 195 l1 h3) fun v10 h9 => if v10 = l1 then X15_thin_B107 (X15_thin_B48 n) 195 was b1 l1 (nI k) h9 else X15_thin_B107 (X15_thin_B48 n) 195 was (nI k) v10 (nI k) h9) else X15_thin_B107 (X15_thin_B48 n) 195 was b1 l1 (nI k) h3 := fun b1 l1 => by
      rw [X15_thin_B48]
      rw [G_t s.c195, M4, G_t q.s.c, q.y, shl1 _ (by omega), if_neg (by rw [nI_lI (by omega) (by omega)]; omega), G_t s.c195, LT_e, G_t s.i.c195, s.i.r195_20, e3, BN_ok]
    rw [hdr]
    by_cases eo : outB (pst p k) (flOf []) = 0
    · have ls : 1 ≤ lsO (r 0 + r 1 + r 2 + r 3) o ∧ lsO (r 0 + r 1 + r 2 + r 3) o ≤ 4 ∧ lsO (r 0 + r 1 + r 2 + r 3) o - 1 = limO (r 0 + r 1 + r 2 + r 3) o := by
        cases o with
        | none => exact ⟨by show 1 ≤ _ + 1; omega, by show _ + 1 ≤ 4; omega, rfl⟩
        | some y => have := tb y rfl; exact ⟨by show 1 ≤ y.2; omega, by show y.2 ≤ 4; omega, rfl⟩
      obtain ⟨ls1, ls4, lse⟩ := ls
      obtain ⟨h4, e4, F4⟩ := thm_out (below := lsO (r 0 + r 1 + r 2 + r 3) o) N120 ao ls4 (limO (r 0 + r 1 + r 2 + r 3) o) 1 FU h3 (by omega) (by omega) (FU_gt (by omega)) C3 q3 s3
      have FF4 : Fz ThR h0 h4 := FF3.tr (F4.mo (fun a k q => .inl q))
      have hS : thS p r (r 0 + r 1 + r 2 + r 3) o k = (match thL (spQ (pst p k)) (ups (alF p r) r 1 (limO (r 0 + r 1 + r 2 + r 3) o)) with
        | some x => some (k, x)
        | none => o) := by unfold thS; rw [if_pos eo] <;> rfl
      have e4 : X15_thinOf_f 195 (nI (lsO (r 0 + r 1 + r 2 + r 3) o)) h3 = _ := e4
      obtain ⟨h5, e5, F5⟩ := ih (k + 1) n h4 (by omega) (by omega) FF4
      rw [hT, hS] at e5
      rw [if_pos (by rw [eo]; exact nI_0), G_t C3.c.s.c195, e4, BN_ok]
      refine ⟨h5, ?_, F5⟩
      cases hx : thL (spQ (pst p k)) (ups (alF p r) r 1 (limO (r 0 + r 1 + r 2 + r 3) o)) with
      | none =>
        rw [hx] at e5
        show (if nI (lsO (r 0 + r 1 + r 2 + r 3) o) = nI (lsO (r 0 + r 1 + r 2 + r 3) o) then _ else _) = _
        rw [if_pos rfl, nx]; exact e5
      | some y =>
        rw [hx] at e5
        obtain ⟨l, hl, e⟩ := thL_mem _ hx
        have := ups_mem _ 1 (by omega) hl
        show (if nI y = nI (lsO (r 0 + r 1 + r 2 + r 3) o) then _ else X15_thin_B107 (X15_thin_B48 n) 195 was (nI k) (nI y) (nI k) h4) = _
        rw [if_neg (by rw [nI_eI (by omega) (by omega)]; omega), nx]; exact e5
    · have hS : thS p r (r 0 + r 1 + r 2 + r 3) o k = o := by unfold thS; rw [if_neg eo]
      obtain ⟨h5, e5, F5⟩ := ih (k + 1) n h3 (by omega) (by omega) FF3
      rw [hT, hS] at e5
      refine ⟨h5, ?_, F5⟩
      rw [if_neg (nI_ne0 (by omega) (by omega)), nx]; exact e5
/-- the class's starts -/
def ThG : Nat → Prop := fun x => ThA x ∨ x = 119 ∨ (152 ≤ x ∧ x ≤ 154) ∨ (174 ≤ x ∧ x ≤ 179) ∨ (168 ≤ x ∧ x ≤ 173)
def bsO : Option (Nat × Nat) → Nat
  | none => 4
  | some x => x.2
theorem formula0_c {h : AH} (g : SG h) (z : xR h 159 0 = 168) : X9_formula_f 145 (nI 0) h = some (168, h) := by
  have cl : xR h 159 (nI 0).toNatClampNeg = 168 := by rw [nI_cl (by omega)]; exact z
  unfold X9_formula_f X9_formula_B42
  rw [if_neg (nI_pos (by omega)), G_t g.c145, g.r145_3, G_t g.c159, g.z159, if_pos (by decide), G_t g.c145, G_t g.c159, G_gx (by omega) (by omega), cl, if_neg (by decide), G_t g.c145, G_t g.c159, G_gx (by omega) (by omega)]
theorem thin_lp {h0 : AH} {b : Nat} {p : PR} {r : NN_} (g0 : SG h0) (bq0 : IsCB h0 b p.1) (u0 : ∀ k, k < 4 → xI h0 147 k = nI (r k)) (x : r 0 + r 1 + r 2 + r 3 ≤ 3) (hn1 : 1 ≤ pl p) (hx6 : pl p ≤ 6) (fo : xR h0 159 0 = 168) (em : IsN h0 166 0 []) : ∀ j k n S (h : AH), k + j = 2 ^ p.1 5 0 → j < n → Fq ThG h0 h → IsW h 119 b (p.1, p.2.1, S, p.2.2.2) → ∃ h', X9_thinnest_B18 n 145 119 (leV ((thO p r (r 0 + r 1 + r 2 + r 3) k).map Prod.fst)) (nI (bsO (thO p r (r 0 + r 1 + r 2 + r 3) k))) (nI (2 ^ p.1 5 0)) (nI k) h = X9_thinnest_B94 145 (leV ((thO p r (r 0 + r 1 + r 2 + r 3) (2 ^ p.1 5 0)).map Prod.fst)) (nI (bsO (thO p r (r 0 + r 1 + r 2 + r 3) (2 ^ p.1 5 0)))) h' ∧ Fq ThG h0 h' := by
  have wy := bq0.w.y
  have p10 : 2 ^ p.1 5 0 ≤ 2 ^ 10 := Nat.pow_le_pow_right (by decide) wy
  intro j
  induction j with
  | zero =>
    intro k n S h hk hn F W
    obtain ⟨n, rfl⟩ : ∃ q, n = q + 1 := ⟨n - 1, by omega⟩
    have ek : k = 2 ^ p.1 5 0 := by omega
    refine ⟨h, ?_, F⟩
    rw [X9_thinnest_B18, if_pos (by rw [nI_lI (by omega) (by omega)]; omega), ek]
  | succ j ih =>
    intro k n S h hk hn F W
    obtain ⟨n, rfl⟩ : ∃ q, n = q + 1 := ⟨n - 1, by omega⟩
    have g := g0.fq F
    have tb := thO_b (p := p) (r := r) x k
    by_cases stop : bsO (thO p r (r 0 + r 1 + r 2 + r 3) k) ≤ 1
    · refine ⟨h, ?_, F⟩
      have b4 : bsO (thO p r (r 0 + r 1 + r 2 + r 3) k) ≤ 4 := by omega
      rw [X9_thinnest_B18, if_neg (by rw [nI_lI (by omega) (by omega)]; omega), if_pos (by rw [nI_lI (by omega) (by omega)]; exact stop)]
      cases ho : thO p r (r 0 + r 1 + r 2 + r 3) k with
      | none => rw [ho] at stop; exact absurd stop (by decide)
      | some y =>
        rw [ho] at stop
        have := thO_stop ho stop (j + 1)
        rw [hk] at this
        rw [this]
    · have hT : thO p r (r 0 + r 1 + r 2 + r 3) (k + 1) = thS p r (r 0 + r 1 + r 2 + r 3) (thO p r (r 0 + r 1 + r 2 + r 3) k) k := rfl
      generalize thO p r (r 0 + r 1 + r 2 + r 3) k = o at hT tb stop ⊢
      have bs : bsO o ≤ 4 ∧ min (bsO o - 1) (r 0 + r 1 + r 2 + r 3) = limO (r 0 + r 1 + r 2 + r 3) o := by
        cases o with
        | none => exact ⟨Nat.le_refl _, Nat.min_eq_right x⟩
        | some y => have := tb y rfl; exact ⟨by show y.2 ≤ 4; omega, by show min (y.2 - 1) _ = y.2 - 1; omega⟩
      obtain ⟨bs4, bsl⟩ := bs
      have W2 : IsW (pI h 119 2 (nI k)) 119 b (pst p k) := ⟨W.w, W.c, W.bk, by rw [xI_ne (by omega)]; exact W.l, xI_self, by rw [xI_ne (by omega)]; exact W.K, by rw [xI_ne (by omega)]; exact W.A, by rw [xI_ne (by omega)]; exact W.B⟩
      have F2 : Fq ThG h0 (pI h 119 2 (nI k)) := F.tr (Fr.i (by unfold ThG; omega)).q
      have g2 := g0.fq F2
      have bq2 : IsCB (pI h 119 2 (nI k)) b (pst p k).1 := bq0.fq F2 (fun a c => by unfold ThG ThA at c; omega)
      have fo2 : xR (pI h 119 2 (nI k)) 159 0 = 168 := by rw [F2.r _ (by decide)]; exact fo
      have em2 : IsN (pI h 119 2 (nI k)) 166 0 [] := em.fq F2 (by decide) (by unfold ThG ThA; omega) (by unfold ThG ThA; omega)
      obtain ⟨h3, e3, F3, t3⟩ := play_ok g2 W2 bq2 hn1 hx6 em2 (fun d hd => absurd hd List.not_mem_nil) (.inr (by decide)) g2.t3
      have g3 := g2.fq F3
      have FF3 : Fq ThG h0 h3 := F2.tr (F3.mo (fun x q => by unfold ThG ThA; omega))
      have fo3 : xR h3 159 0 = 168 := by rw [FF3.r _ (by decide)]; exact fo
      have W3 := W2.fq F3 (by decide)
      have ob := outB_le (p := pst p k) (f := flOf [])
      have nx : ∀ b1 l1 st h', X9_thinnest_B88 (X9_thinnest_B18 n) 145 119 b1 l1 st (nI k) h' = X9_thinnest_B18 n 145 119 b1 l1 st (nI (k + 1)) h' := fun b1 l1 st h' => by
        unfold X9_thinnest_B88
        rw [LT_e, nI_add]
      have hdr : ∀ b1, X9_thinnest_B18 (n + 1) 145 119 b1 (nI (bsO o)) (nI (2 ^ p.1 5 0)) (nI k) h = if nI (outB (pst p k) (flOf [])) = 0 then (BN (X9_spoilSize_f 145 119 168 (nI (bsO o - 1)) h3) fun v17 h16 => if v17 = (-1) then X9_thinnest_B88 (X9_thinnest_B18 n) 145 119 b1 (nI (bsO o)) (nI (2 ^ p.1 5 0)) (nI k) h16 else X9_thinnest_B88 (X9_thinnest_B18 n) 145 119 (nI k) v17 (nI (2 ^ p.1 5 0)) (nI k) h16) else X9_thinnest_B88 (X9_thinnest_B18 n) 145 119 b1 (nI (bsO o)) (nI (2 ^ p.1 5 0)) (nI k) h3 := fun b1 => by
        have sb : nI (bsO o) - nI 1 = nI (bsO o - 1) := pk_sub (by omega)
        rw [X9_thinnest_B18, if_neg (by rw [nI_lI (by omega) (by omega)]; omega), if_neg (by rw [nI_lI (by omega) (by omega)]; exact stop), G_t W.c, LT_e, G_t g2.c145, formula0_c g2 fo2, BN_ok, G_t g2.c145, g2.r145_7, e3, BN_ok, G_t g3.c145, formula0_c g3 fo3, BN_ok, G_t g3.c168, t3.V, G_t g3.c145, formula0_c g3 fo3, BN_ok, G_t g3.c145, sb]
      rw [hdr]
      by_cases eo : outB (pst p k) (flOf []) = 0
      · have C3 : CaX_ h3 119 b (pst p k) r := ⟨g3, W3, bq0.fq FF3 (fun a c => by unfold ThG ThA at c; omega), fun k hk => by rw [FF3.I _ (by unfold ThG ThA; omega)]; exact u0 k hk, x, hn1, hx6⟩
        obtain ⟨h4, e4, F4⟩ := spoilSize_c (bsO o - 1) (by omega) C3 t3
        have FF4 : Fq ThG h0 h4 := FF3.tr (F4.mo (fun x q => .inl q))
        have W4 := W3.fq F4 (by unfold ThA; omega)
        have hS : thS p r (r 0 + r 1 + r 2 + r 3) o k = (match thL (spQ (pst p k)) (ups (alF p r) r 1 (limO (r 0 + r 1 + r 2 + r 3) o)) with
          | some x => some (k, x)
          | none => o) := by unfold thS; rw [if_pos eo] <;> rfl
        rw [bsl] at e4
        have e4 : X9_spoilSize_f 145 119 168 (nI (bsO o - 1)) h3 = some (leV (thL (spQ (pst p k)) (ups (alF p r) r 1 (limO (r 0 + r 1 + r 2 + r 3) o))), h4) := e4
        obtain ⟨h5, e5, F5⟩ := ih (k + 1) n (nI k) h4 (by omega) (by omega) FF4 W4
        rw [hT, hS] at e5
        refine ⟨h5, ?_, F5⟩
        rw [if_pos (by rw [eo]; exact nI_0), e4, BN_ok]
        cases hx : thL (spQ (pst p k)) (ups (alF p r) r 1 (limO (r 0 + r 1 + r 2 + r 3) o)) with
        | none =>
          rw [hx] at e5
          rw [if_pos leV_none, nx]; exact e5
        | some y =>
          rw [hx] at e5
          obtain ⟨l, hl, e⟩ := thL_mem _ hx
          have := ups_mem _ 1 (by omega) hl
          rw [leV_some, if_neg (by rw [nI_m1 (by omega)]; exact id), nx]; exact e5
      · have hS : thS p r (r 0 + r 1 + r 2 + r 3) o k = o := by unfold thS; rw [if_neg eo]
        obtain ⟨h5, e5, F5⟩ := ih (k + 1) n (nI k) h3 (by omega) (by omega) FF3 W3
        rw [hT, hS] at e5
        refine ⟨h5, ?_, F5⟩
        rw [if_neg (nI_ne0 (by omega) (by omega)), nx]; exact e5
