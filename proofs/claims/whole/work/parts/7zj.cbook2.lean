theorem IsCB.fww {P A : Nat → Nat → Prop} {h h' : AH} {D : Nat} {B : BK} (F : Fw P A h h') (n : D + 55 < xn h) (hp : ∀ k j, k < 56 → ¬ P (D + k) j) (ha : ∀ k j, k < 56 → ¬ A (D + k) j) (q : IsCB h D B) : IsCB h' D B := q.mv (fun k hk => ⟨F.c (by omega), F.z (by omega), funext fun j => F.r (by omega) (hp k j hk), funext fun j => F.I (by omega) (ha k j hk)⟩)
theorem Fw.i {P A : Nat → Nat → Prop} {h : AH} {a k : Nat} {v : Int32} (m : A a k) : Fw P A h (pI h a k v) := ⟨Nat.le_refl _, fun b _ => ⟨rfl, rfl, fun _ _ => rfl, fun j c => ⟨by rw [xI_pI, if_neg (fun q : b = a ∧ j = k => c (by rw [q.1, q.2]; exact m))], rfl⟩⟩⟩
/-- the works begun anew -/
theorem wbegin_c {h : AH} {D : Nat} (g : SG h) (cD : xc h D = 0) (hD : D = 2 ∨ D = 63) : ∃ h', X10_begin_f 62 D h = some ((), h') ∧ Fw P2_ (fun a _ => a = 62) h h' ∧ xn h' = xn h ∧ xs h' = xs h ∧ (∀ a k, ¬ (a = 62 ∧ k = 0) → xR h' a k = xR h a k) ∧ xR h' 62 0 = D ∧ xI h' 62 1 = nI 4 ∧ xI h' 62 2 = (nI 1 <<< (xI h D 5 &&& 31)) - nI 1 ∧ xI h' 62 3 = xI h D 6 ∧ xI h' 62 4 = nI 0 ∧ xI h' 62 5 = nI 0 := by
  obtain ⟨a1, a1e⟩ : ∃ a1, a1 = pR h 62 0 D := ⟨_, rfl⟩
  have F1 : Fw P2_ (fun a _ => a = 62) h a1 := by rw [a1e]; exact Fw.pr (by unfold P2_; omega)
  have g1 := g.fw F1
  have d1 : xc a1 D = 0 := by rw [a1e]; exact cD
  have v1 : ∀ k, xI a1 D k = xI h D k := fun k => by rw [a1e]; rfl
  unfold X10_begin_f
  rw [G_t g.c62, LT_e, ← a1e, G_t g1.c62, LT_e, G_t (show xc (pI a1 62 1 (nI 4)) D = 0 from d1), G_t g1.i.c62, LT_e]
  rw [xI_ne (by omega), v1]
  rw [G_t (show xc (pI (pI a1 62 1 (nI 4)) 62 2 ((nI 1 <<< (xI h D 5 &&& 31)) - nI 1)) D = 0 from d1), G_t g1.i.i.c62, LT_e, xI_ne (by omega), xI_ne (by omega), v1, G_t g1.i.i.i.c62, LT_e, G_t g1.i.i.i.i.c62, LT_e]
  have Fa := F1.tr (((((Fw.i (P := P2_) (A := fun a _ => a = 62) (h := a1) (k := 1) (v := nI 4) rfl).tr (Fw.i (k := 2) (v := (nI 1 <<< (xI h D 5 &&& 31)) - nI 1) rfl)).tr (Fw.i (k := 3) (v := xI h D 6) rfl)).tr (Fw.i (k := 4) (v := nI 0) rfl)).tr (Fw.i (k := 5) (v := nI 0) rfl))
  refine ⟨_, rfl, Fa, ?_, ?_, fun a k q => ?_, ?_, ?_, ?_, ?_, ?_, ?_⟩
  · show xn a1 = xn h
    rw [a1e]; rfl
  · show xs a1 = xs h
    rw [a1e]; rfl
  · show xR a1 a k = xR h a k
    rw [a1e, xR_pR, if_neg q]
  · show xR a1 62 0 = D
    rw [a1e, xR_pR, if_pos ⟨rfl, rfl⟩]
  · rw [xI_ne (by omega), xI_ne (by omega), xI_ne (by omega), xI_ne (by omega), xI_self]
  · rw [xI_ne (by omega), xI_ne (by omega), xI_ne (by omega), xI_self]
  · rw [xI_ne (by omega), xI_ne (by omega), xI_self]
  · rw [xI_ne (by omega), xI_self]
  · rw [xI_self]
def rP_ : NN_ := fun k => if k < 2 then 1 else 0
theorem forget_c {h : AH} (g : SG h) : ∃ h', X9_forget_f 145 h = some ((), h') ∧ Fz (fun a k => a = 147 ∨ a = 145 ∨ (a = 162 ∨ a = 164) ∧ k = 1) h h' ∧ (∀ k, k < 4 → xI h' 147 k = nI (rP_ k)) ∧ xI h' 145 10 = -1 ∧ xI h' 145 11 = -1 ∧ xI h' 145 12 = -1 ∧ xI h' 162 1 = nI 0 ∧ xI h' 164 1 = nI 0 := by
  obtain ⟨h4, h4e⟩ : ∃ h4, h4 = pI (pI (pI (pI h 147 0 (nI 1)) 147 1 (nI 1)) 147 2 (nI 0)) 147 3 (nI 0) := ⟨_, rfl⟩
  have e4 : X5_beginAnew_f 146 h = some ((), h4) := by
    unfold X5_beginAnew_f
    rw [G_t g.c146, g.r146_0, G_t g.c147, g.z147, G_gx (by decide) (by decide), nI_cl (by decide), LT_e, G_t g.i.c146, g.i.r146_0, G_t g.i.c147, g.i.z147, G_gx (by decide) (by decide), nI_cl (by decide), LT_e, G_t g.i.i.c146, g.i.i.r146_0, G_t g.i.i.c147, g.i.i.z147, G_gx (by decide) (by decide), nI_cl (by decide), LT_e, G_t g.i.i.i.c146, g.i.i.i.r146_0, G_t g.i.i.i.c147, g.i.i.i.z147, G_gx (by decide) (by decide), nI_cl (by decide), LT_e, h4e]
  have F4 : Fz (fun a k => a = 147 ∨ a = 145 ∨ (a = 162 ∨ a = 164) ∧ k = 1) h h4 := by
    rw [h4e]
    exact (((Fz.i (by omega)).tr (Fz.i (by omega))).tr (Fz.i (by omega))).tr (Fz.i (by omega))
  have g4 := g.fz F4
  unfold X9_forget_f
  rw [G_t g.c145, g.r145_0, G_t g.c146, e4, BN_ok, G_t g4.c145, LT_e, G_t g4.i.c145, LT_e, G_t g4.i.i.c145, LT_e, G_t g4.i.i.i.c145, g4.i.i.i.r145_5, G_t g4.i.i.i.c162, nw_wipe g4.i.i.i.c162, BN_ok, G_t g4.i.i.i.i.c145, g4.i.i.i.i.r145_6, G_t g4.i.i.i.i.c164, nw_wipe g4.i.i.i.i.c164, BN_ok]
  refine ⟨_, rfl, F4.tr (((((Fz.i (by omega)).tr (Fz.i (by omega))).tr (Fz.i (by omega))).tr (Fz.i (by omega))).tr (Fz.i (by omega))), fun k hk => ?_, ?_, ?_, ?_, ?_, ?_⟩
  · rw [xI_ne (by omega), xI_ne (by omega), xI_ne (by omega), xI_ne (by omega), xI_ne (by omega), h4e]
    have : k = 0 ∨ k = 1 ∨ k = 2 ∨ k = 3 := by omega
    rcases this with rfl | rfl | rfl | rfl
    · rw [xI_ne (by omega), xI_ne (by omega), xI_ne (by omega), xI_self]; rfl
    · rw [xI_ne (by omega), xI_ne (by omega), xI_self]; rfl
    · rw [xI_ne (by omega), xI_self]; rfl
    · rw [xI_self]; rfl
  · rw [xI_ne (by omega), xI_ne (by omega), xI_ne (by omega), xI_ne (by omega), xI_self]
  · rw [xI_ne (by omega), xI_ne (by omega), xI_ne (by omega), xI_self]
  · rw [xI_ne (by omega), xI_ne (by omega), xI_self]
  · rw [xI_ne (by omega), xI_self]
  · rw [xI_self]
def CbA (D : Nat) : Nat → Nat → Prop := fun x k => RdA D x k ∨ x = 1 ∧ (k = 15 ∨ k = 16 ∨ k = 17)
def CgA (D : Nat) : Nat → Nat → Prop := fun x k => RdA D x k ∨ x = 1 ∨ x = 62 ∨ (x = 120 ∨ x = 126 ∨ x = 162 ∨ x = 164) ∧ k = 1 ∨ x = 147 ∨ x = 145
/-- what the class has of a book that it took -/
def CgO (h h1 : AH) (D b : Nat) (B : BK) : Prop := (SG h1) ∧ (xI h1 58 4 = nI 0) ∧ (xI h1 1 13 = nI 1) ∧ (xI h1 1 14 = nI 0) ∧ (xI h1 1 15 = nI 0) ∧ (xI h1 1 16 = nI 0) ∧ (xR h1 1 12 = b) ∧ (xR h1 62 0 = D) ∧ (xI h1 62 1 = nI 4) ∧ (xI h1 62 2 = (nI 1 <<< (nI (B 5 0) &&& 31)) - nI 1) ∧ (xI h1 62 3 = nI (B 6 0)) ∧ (xI h1 62 4 = nI 0) ∧ (xI h1 62 5 = nI 0) ∧ (IsCB h1 D B) ∧ (xI h1 120 1 = nI 0) ∧ (xI h1 126 1 = nI 0) ∧ (∀ k, k < 4 → xI h1 147 k = nI (rP_ k)) ∧ (xI h1 145 10 = -1) ∧ (xI h1 145 11 = -1) ∧ (xI h1 145 12 = -1) ∧ (xI h1 162 1 = nI 0) ∧ (xI h1 164 1 = nI 0)
theorem CgO.g {h h1 : AH} {D b : Nat} {B : BK} (q_ : CgO h h1 D b B) : SG h1 := q_.1
theorem CgO.t {h h1 : AH} {D b : Nat} {B : BK} (q_ : CgO h h1 D b B) : xI h1 58 4 = nI 0 := q_.2.1
theorem CgO.d13 {h h1 : AH} {D b : Nat} {B : BK} (q_ : CgO h h1 D b B) : xI h1 1 13 = nI 1 := q_.2.2.1
theorem CgO.d14 {h h1 : AH} {D b : Nat} {B : BK} (q_ : CgO h h1 D b B) : xI h1 1 14 = nI 0 := q_.2.2.2.1
theorem CgO.d15 {h h1 : AH} {D b : Nat} {B : BK} (q_ : CgO h h1 D b B) : xI h1 1 15 = nI 0 := q_.2.2.2.2.1
theorem CgO.d16 {h h1 : AH} {D b : Nat} {B : BK} (q_ : CgO h h1 D b B) : xI h1 1 16 = nI 0 := q_.2.2.2.2.2.1
theorem CgO.r12 {h h1 : AH} {D b : Nat} {B : BK} (q_ : CgO h h1 D b B) : xR h1 1 12 = b := q_.2.2.2.2.2.2.1
theorem CgO.w0 {h h1 : AH} {D b : Nat} {B : BK} (q_ : CgO h h1 D b B) : xR h1 62 0 = D := q_.2.2.2.2.2.2.2.1
theorem CgO.w1 {h h1 : AH} {D b : Nat} {B : BK} (q_ : CgO h h1 D b B) : xI h1 62 1 = nI 4 := q_.2.2.2.2.2.2.2.2.1
theorem CgO.w2 {h h1 : AH} {D b : Nat} {B : BK} (q_ : CgO h h1 D b B) : xI h1 62 2 = (nI 1 <<< (nI (B 5 0) &&& 31)) - nI 1 := q_.2.2.2.2.2.2.2.2.2.1
theorem CgO.w3 {h h1 : AH} {D b : Nat} {B : BK} (q_ : CgO h h1 D b B) : xI h1 62 3 = nI (B 6 0) := q_.2.2.2.2.2.2.2.2.2.2.1
theorem CgO.w4 {h h1 : AH} {D b : Nat} {B : BK} (q_ : CgO h h1 D b B) : xI h1 62 4 = nI 0 := q_.2.2.2.2.2.2.2.2.2.2.2.1
theorem CgO.w5 {h h1 : AH} {D b : Nat} {B : BK} (q_ : CgO h h1 D b B) : xI h1 62 5 = nI 0 := q_.2.2.2.2.2.2.2.2.2.2.2.2.1
theorem CgO.q {h h1 : AH} {D b : Nat} {B : BK} (q_ : CgO h h1 D b B) : IsCB h1 D B := q_.2.2.2.2.2.2.2.2.2.2.2.2.2.1
theorem CgO.fa {h h1 : AH} {D b : Nat} {B : BK} (q_ : CgO h h1 D b B) : xI h1 120 1 = nI 0 := q_.2.2.2.2.2.2.2.2.2.2.2.2.2.2.1
theorem CgO.tm {h h1 : AH} {D b : Nat} {B : BK} (q_ : CgO h h1 D b B) : xI h1 126 1 = nI 0 := q_.2.2.2.2.2.2.2.2.2.2.2.2.2.2.2.1
theorem CgO.rm {h h1 : AH} {D b : Nat} {B : BK} (q_ : CgO h h1 D b B) : ∀ k, k < 4 → xI h1 147 k = nI (rP_ k) := q_.2.2.2.2.2.2.2.2.2.2.2.2.2.2.2.2.1
theorem CgO.t10 {h h1 : AH} {D b : Nat} {B : BK} (q_ : CgO h h1 D b B) : xI h1 145 10 = -1 := q_.2.2.2.2.2.2.2.2.2.2.2.2.2.2.2.2.2.1
theorem CgO.t11 {h h1 : AH} {D b : Nat} {B : BK} (q_ : CgO h h1 D b B) : xI h1 145 11 = -1 := q_.2.2.2.2.2.2.2.2.2.2.2.2.2.2.2.2.2.2.1
theorem CgO.t12 {h h1 : AH} {D b : Nat} {B : BK} (q_ : CgO h h1 D b B) : xI h1 145 12 = -1 := q_.2.2.2.2.2.2.2.2.2.2.2.2.2.2.2.2.2.2.2.1
theorem CgO.fs {h h1 : AH} {D b : Nat} {B : BK} (q_ : CgO h h1 D b B) : xI h1 162 1 = nI 0 := q_.2.2.2.2.2.2.2.2.2.2.2.2.2.2.2.2.2.2.2.2.1
theorem CgO.es {h h1 : AH} {D b : Nat} {B : BK} (q_ : CgO h h1 D b B) : xI h1 164 1 = nI 0 := q_.2.2.2.2.2.2.2.2.2.2.2.2.2.2.2.2.2.2.2.2.2
theorem book_c {h : AH} {n z D b : Nat} {T : Nat → Int32} (g : SG h) (e4 : xI h 58 4 = nI z) (hz : z ≤ 700) (hn : n ≤ z) (tp : ∀ k, k < n → xI h 59 k = T k) (bt : ∀ k, k < n → byt (T k)) (hD : D = 2 ∨ D = 63) (rD : xR h 1 12 = D) (rb : xR h 62 0 = b) (hb : b = 2 ∨ b = 63) : ((prsX T n).1 ≠ 0 → ∃ h1, X11_book_f 1 (nI n) h = some (-1, h1) ∧ Fw P1_ (CbA D) h h1 ∧ xn h1 = xn h ∧ xs h1 = xs h ∧ SG h1 ∧ xI h1 58 4 = nI 0 ∧ xI h1 1 16 = nI (prsX T n).1 ∧ xI h1 1 17 = nI (prsX T n).2.1 ∧ xI h1 1 15 = nI 4) ∧ ((prsX T n).1 = 0 → ∃ h1, X11_book_f 1 (nI n) h = some (nI ((prsX T n).2.2 3 0 + (prsX T n).2.2 4 0), h1) ∧ Fw P2_ (CgA D) h h1 ∧ xn h1 = xn h ∧ xs h1 = xs h ∧ CgO h h1 D b (prsX T n).2.2) := by
  have g0 := g.1
  obtain ⟨w, h5, e5, F5, n5, s5, r5, g5, v4, v6, x5, y5⟩ := read_c g e4 hz hn tp bt hD
  generalize prsX T n = X at *
  have rF : xR h5 1 12 = D := by rw [F5.r (by omega) (by unfold P1_; omega)]; exact rD
  have rW : xR h5 62 0 = b := by rw [F5.r (by omega) (by unfold P1_; omega)]; exact rb
  obtain ⟨h7, h7e⟩ : ∃ h7, h7 = pI (pI h5 1 16 (xI h5 58 9)) 1 17 (nI X.2.1) := ⟨_, rfl⟩
  have F7 : Fz (fun a k => a = 1 ∧ (k = 16 ∨ k = 17)) h5 h7 := by rw [h7e]; exact (Fz.i (by omega)).tr (Fz.i (by omega))
  have g7 := g5.fz F7
  have hd : X11_book_f 1 (nI n) h = (if w = 0 then (G (xc h7 1 = 11) <| BN (X11_refuse_f 1 (nI 4) h7) fun v39 h38 => some (v39, h38)) else (G (xc h7 1 = 11) <| G (xc h7 (xR h7 1 1) = 10) <| LT (xR h7 (xR h7 1 1) 0) fun r15 => BN (X10_begin_f (xR h7 1 1) (xR h7 1 12) h7) fun _ h16 => G (xc h16 1 = 11) <| LT (pR h16 1 12 r15) fun h18 => G (xc h18 1 = 11) <| LT (pI h18 1 13 (nI 1)) fun h20 => G (xc h20 1 = 11) <| G (xc h20 (xR h20 1 3) = 4) <| BN (X4_wipe_f (xR h20 1 3) h20) fun _ h23 => G (xc h23 1 = 11) <| G (xc h23 (xR h23 1 6) = 4) <| BN (X4_wipe_f (xR h23 1 6) h23) fun _ h26 => G (xc h26 1 = 11) <| LT (pI h26 1 14 (nI 0)) fun h28 => G (xc h28 1 = 11) <| G (xc h28 (xR h28 1 8) = 9) <| BN (X9_forget_f (xR h28 1 8) h28) fun _ h31 => G (xc h31 1 = 11) <| G (xc h31 (xR h31 1 1) = 10) <| G (xc h31 (xR h31 (xR h31 1 1) 0) = 0) <| BN (X11_grant_f 1 ((xI h31 (xR h31 (xR h31 1 1) 0) 3) + (xI h31 (xR h31 (xR h31 1 1) 0) 4)) h31) fun v36 h35 => some (v36, h35))) := by
    unfold X11_book_f
    rw [if_neg (nI_pos (by omega)), G_t g.c1, g.r1_0, G_t g.c58, e4, if_pos (by rw [nI_lI (by omega) (by omega)]; exact hn), G_t g.c1, G_t g.c58, rD, e5, BN_ok, G_t g5.c1, g5.r1_0, G_t g5.c58, LT_e, G_t g5.i.c1, g5.i.r1_0, G_t g5.i.c58, xI_ne (by omega), v6, LT_e, ← h7e]
  refine ⟨fun z => ?_, fun z => ?_⟩
  · obtain ⟨w0, v9⟩ := y5 z
    have F8 : Fz (fun a k => a = 1 ∧ (k = 15 ∨ k = 16 ∨ k = 17)) h5 (pI h7 1 15 (nI 4)) := (F7.mo (fun a k q => by omega)).tr (Fz.i (by omega))
    refine ⟨pI h7 1 15 (nI 4), ?_, (F5.mo (fun a k q => q) (fun a k _ q => .inl q)).tr (F8.fw.mo (fun a k q => q) (fun a k _ q => .inr q)), by rw [F8.n]; exact n5, by rw [F8.s]; exact s5, g5.fz F8, ?_, ?_, ?_, xI_self⟩
    · rw [hd, w0, if_pos (by decide), G_t g7.c1, refuse_c g7, BN_ok]
    · rw [F8.I (by omega)]; exact v4
    · rw [xI_ne (by omega), h7e, xI_ne (by omega), xI_self]; exact v9
    · rw [xI_ne (by omega), h7e, xI_self]
  · obtain ⟨w0, q5, v9⟩ := x5 z
    have rF7 : xR h7 1 12 = D := by rw [F7.r _ (by decide)]; exact rF
    have rW7 : xR h7 62 0 = b := by rw [F7.r _ (by decide)]; exact rW
    have q7 : IsCB h7 D X.2.2 := q5.fww F7.fw (by rw [n5]; omega) (fun k j hk => by unfold P1_; omega) (fun k j hk => by omega)
    obtain ⟨h8, e8, F8, n8, s8, r8, b0, b1, b2, b3, b4, b5⟩ := wbegin_c g7 q7.s.c hD
    have n7 : xn h7 = xn h := by rw [F7.n]; exact n5
    have g8 := g7.fw F8
    have q8 : IsCB h8 D X.2.2 := q7.fww F8 (by rw [n7]; omega) (fun k j hk => by unfold P2_ P1_; omega) (fun k j hk => by omega)
    obtain ⟨h9, h9e⟩ : ∃ h9, h9 = pR h8 1 12 b := ⟨_, rfl⟩
    have F9 : Fw P2_ (fun _ _ => False) h8 h9 := by rw [h9e]; exact Fw.pr (by unfold P2_; omega)
    have g9 := g8.fw F9
    have I9 : ∀ a k, xI h9 a k = xI h8 a k := fun a k => by rw [h9e]; rfl
    obtain ⟨hA, hAe⟩ : ∃ hA, hA = pI (pI (pI (pI h9 1 13 (nI 1)) 120 1 (nI 0)) 126 1 (nI 0)) 1 14 (nI 0) := ⟨_, rfl⟩
    have FA : Fz (fun a k => a = 1 ∧ (k = 13 ∨ k = 14) ∨ (a = 120 ∨ a = 126) ∧ k = 1) h9 hA := by
      rw [hAe]
      exact (((Fz.i (by omega)).tr (Fz.i (by omega))).tr (Fz.i (by omega))).tr (Fz.i (by omega))
    have gA := g9.fz FA
    obtain ⟨hB, eB, FB, rm, t10, t11, t12, fs, es⟩ := forget_c gA
    have gB := gA.fz FB
    have rWB : xR hB 62 0 = D := by rw [FB.r _ (by decide), FA.r _ (by decide), h9e, xR_pR, if_neg (by decide)]; exact b0
    have rFB : xR hB 1 12 = b := by rw [FB.r _ (by decide), FA.r _ (by decide), h9e, xR_pR, if_pos ⟨rfl, rfl⟩]
    have FAB : Fz (fun a k => (a = 1 ∧ (k = 13 ∨ k = 14) ∨ (a = 120 ∨ a = 126) ∧ k = 1) ∨ (a = 147 ∨ a = 145 ∨ (a = 162 ∨ a = 164) ∧ k = 1)) h9 hB := (FA.mo (fun a k q => .inl q)).tr (FB.mo (fun a k q => .inr q))
    have n9 : xn h9 = xn h := by rw [h9e]; show xn h8 = _; rw [n8]; exact n7
    have q9 : IsCB h9 D X.2.2 := q8.fww F9 (by rw [n8, n7]; omega) (fun k j hk => by unfold P2_ P1_; omega) (fun k j hk q => q)
    have qB : IsCB hB D X.2.2 := q9.fww FAB.fw (by rw [n9]; omega) (fun k j hk => by unfold P1_; omega) (fun k j hk => by omega)
    have J : ∀ a k, a < 227 → a ≠ 62 → ¬ (a = 1 ∧ (13 ≤ k ∧ k ≤ 17) ∨ (a = 120 ∨ a = 126 ∨ a = 162 ∨ a = 164) ∧ k = 1 ∨ a = 147 ∨ a = 145) → xI (pI hB 1 15 (nI 0)) a k = xI h7 a k := fun a k a1 a2 a3 => by rw [xI_ne (by omega), FAB.I (by omega), I9, F8.I (by omega) (by omega)]
    have W : ∀ k, xI (pI hB 1 15 (nI 0)) 62 k = xI h8 62 k := fun k => by rw [xI_ne (by omega), FAB.I (by omega), I9]
    refine ⟨pI hB 1 15 (nI 0), ?_, ?_, ?_, ?_, gB.i, ?_, ?_, ?_, xI_self, ?_, rFB, rWB, by rw [W]; exact b1, by rw [W, b2, q7.y], by rw [W, b3, q7.k], by rw [W]; exact b4, by rw [W]; exact b5, qB.fww (Fw.i (P := P1_) (A := fun a k => a = 1 ∧ k = 15) ⟨rfl, rfl⟩) (by rw [FB.n, FA.n, n9]; omega) (fun k j hk => by unfold P1_; omega) (fun k j hk => by omega), ?_, ?_, fun k hk => by rw [xI_ne (by omega)]; exact rm k hk, by rw [xI_ne (by omega)]; exact t10, by rw [xI_ne (by omega)]; exact t11, by rw [xI_ne (by omega)]; exact t12, by rw [xI_ne (by omega)]; exact fs, by rw [xI_ne (by omega)]; exact es⟩
    · rw [hd, w0, if_neg (by decide), G_t g7.c1, g7.r1_1, G_t g7.c62, rW7, LT_e, rF7, e8, BN_ok, G_t g8.c1, LT_e, ← h9e, G_t g9.c1, LT_e, G_t g9.i.c1, g9.i.r1_3, G_t g9.i.c120, nw_wipe g9.i.c120, BN_ok, G_t g9.i.i.c1, g9.i.i.r1_6, G_t g9.i.i.c126, nw_wipe g9.i.i.c126, BN_ok, G_t g9.i.i.i.c1, LT_e, ← hAe, G_t gA.c1, gA.r1_8, G_t gA.c145, eB, BN_ok, G_t gB.c1, gB.r1_1, G_t gB.c62, rWB, G_t qB.s.c, qB.u, qB.sn, nI_add, grant_c gB, BN_ok]
    · have f5 : Fw P2_ (CgA D) h h5 := F5.mo (fun a k q => P12 q) (fun a k _ q => .inl q)
      have f7 : Fw P2_ (CgA D) h5 h7 := F7.fw.mo (fun a k q => P12 q) (fun a k _ q => by unfold CgA; omega)
      have f8 : Fw P2_ (CgA D) h7 h8 := F8.mo (fun a k q => q) (fun a k _ q => by unfold CgA; omega)
      have f9 : Fw P2_ (CgA D) h8 h9 := F9.mo (fun a k q => q) (fun a k _ q => q.elim)
      have fB : Fw P2_ (CgA D) h9 hB := FAB.fw.mo (fun a k q => P12 q) (fun a k _ q => by unfold CgA; omega)
      exact ((((f5.tr f7).tr f8).tr f9).tr fB).tr (Fw.i (by unfold CgA; omega))
    · show xn hB = xn h
      rw [FB.n, FA.n]; exact n9
    · show xs hB = xs h
      rw [FB.s, FA.s, h9e]
      show xs h8 = _
      rw [s8, F7.s]; exact s5
    · rw [J _ _ (by omega) (by omega) (by omega), F7.I (by omega)]; exact v4
    · rw [xI_ne (by omega), FB.I (by omega), hAe, xI_ne (by omega), xI_ne (by omega), xI_ne (by omega), xI_self]
    · rw [xI_ne (by omega), FB.I (by omega), hAe, xI_self]
    · rw [xI_ne (by omega), FB.I (by omega), FA.I (by omega), I9, F8.I (by rw [n7]; omega) (by omega), h7e, xI_ne (by omega), xI_self]; exact v9
    · rw [xI_ne (by omega), FB.I (by omega), hAe, xI_ne (by omega), xI_ne (by omega), xI_self]
    · rw [xI_ne (by omega), FB.I (by omega), hAe, xI_ne (by omega), xI_self]
