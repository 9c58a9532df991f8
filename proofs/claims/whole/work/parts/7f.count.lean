theorem wy_stop : ∀ N, N < 37 → ∀ j, j < 4 → ∀ R, R < 4 → N ≤ j → j ≤ R → wyN N R = wyN N j := by decide +kernel
theorem sc_in {h : AH} {wk k N R prod : Nat} (K : Nat → Nat → Int32 → Int32 → AH → Option (Int32 × AH)) (g : SG h) (u : xI h 147 k = nI R) (hk : k < 4) (hR : R ≤ 3) (hN : N ≤ 36) : ∀ d j fu, j + d = R → j ≤ N → d < fu → X5_setCount_B26 K fu 146 wk (nI prod) (nI k) (nI N) (nI (wyN N j)) (nI (chN N j)) (nI (j + 1)) h = X5_setCount_B72 K 146 wk (nI prod) (nI k) (nI (wyN N R)) h := by
  have u1 : xI h 147 (nI k).toNatClampNeg = nI R := by rw [nI_cl (by omega)]; exact u
  intro d
  induction d with
  | zero =>
    intro j fu hj hN2 hf
    obtain ⟨fu, rfl⟩ : ∃ q, fu = q + 1 := ⟨fu - 1, by omega⟩
    rw [X5_setCount_B26]
    rw [G_t g.c146, g.r146_0, G_t g.c147, g.z147, G_gx (by omega) (by omega), u1, if_pos (by rw [nI_tI (by omega) (by omega)]; omega), show j = R by omega]
  | succ d ih =>
    intro j fu hj hN2 hf
    obtain ⟨fu, rfl⟩ : ∃ q, fu = q + 1 := ⟨fu - 1, by omega⟩
    rw [X5_setCount_B26]
    rw [G_t g.c146, g.r146_0, G_t g.c147, g.z147, G_gx (by omega) (by omega), u1, if_neg (by rw [nI_tI (by omega) (by omega)]; omega)]
    by_cases c : N < j + 1
    · rw [if_pos (by rw [nI_tI (by omega) (by omega)]; exact c), wy_stop N (by omega) j (by omega) R (by omega) (by omega) (by omega)]
    · have cb := (wy_dec N (by omega) j (by omega)).1
      have m36 : chN N j * (N - j) ≤ 7140 * 36 := Nat.mul_le_mul cb (by omega)
      have e : nI N - nI (j + 1) + nI 1 = nI (N - j) := by rw [pk_sub (by omega), nI_add, show N - (j + 1) + 1 = N - j by omega]
      have e2 : nI (chN N j) * nI (N - j) / nI (j + 1) = nI (chN N (j + 1)) := by rw [pk_mul, pk_div (by omega) (by omega) (by omega)]; rfl
      have e3 : nI (wyN N j) + nI (chN N (j + 1)) = nI (wyN N (j + 1)) := by rw [nI_add]; rfl
      rw [if_neg (by rw [nI_tI (by omega) (by omega)]; exact c), G_t (nI_ne0 (by omega) (by omega)), e, e2, LT_e, e3, LT_e, nI_add, LT_e]
      exact ih (j + 1) fu (by omega) (by omega) (by omega)
theorem setCount_c {h : AH} {wk b : Nat} {p : PR} {r : NN_} (C : CaX_ h wk b p r) : X5_setCount_f 146 wk h = some (nI (ups (alF p r) r 1 (r 0 + r 1 + r 2 + r 3)).length, h) := by
  have x := C.x
  have sw := sets_W (r := r) C.q.w C.y C.x
  have fo : ∀ k, k < 4 → X5_fallsOf_f 146 wk (nI k) h = some (nI (bkL p r k).length, h) := fun k hk => fallsOf_c C hk
  have st : ∀ k prod n, k < 4 → X5_setCount_B4 (n + 1) 146 wk (nI prod) (nI k) h = X5_setCount_B4 n 146 wk (nI (prod * wyN (bkL p r k).length (r k))) (nI (k + 1)) h := fun k prod n hk => by
    have bl := bk_len (r := r) (k := k) C.q.w C.y
    have e := sc_in (wk := wk) (N := (bkL p r k).length) (prod := prod) (X5_setCount_B4 n) C.g (C.u k hk) hk (r_le C.x hk) bl (r k) 0 FU (by omega) (by omega) (FU_gt (by have := r_le C.x hk; omega))
    have e : X5_setCount_B26 (X5_setCount_B4 n) FU 146 wk (nI prod) (nI k) (nI (bkL p r k).length) (nI 1) (nI 1) (nI 1) h = _ := e
    rw [X5_setCount_B4, if_neg (by rw [nI_lI (by omega) (by omega)]; omega), G_t C.g.c146, fo k hk, BN_ok, e]
    unfold X5_setCount_B72
    rw [pk_mul, LT_e, nI_add, LT_e]
  have fu : FU = 3999995 + 1 + 1 + 1 + 1 + 1 := by decide
  unfold X5_setCount_f
  rw [fu, st 0 1 _ (by decide), st 1 _ _ (by decide), st 2 _ _ (by decide), st 3 _ _ (by decide), X5_setCount_B4, if_pos (by decide)]
  unfold X5_setCount_B83
  have e : 1 * wyN (bkL p r 0).length (r 0) * wyN (bkL p r 1).length (r 1) * wyN (bkL p r 2).length (r 2) * wyN (bkL p r 3).length (r 3) = (ups (alF p r) r 1 (r 0 + r 1 + r 2 + r 3)).length + 1 := by
    rw [sw, Nat.one_mul, Nat.mul_one, Nat.mul_assoc, Nat.mul_assoc]
  rw [e, pk_sub (by omega), Nat.add_sub_cancel]
theorem sets_in {b s : Nat} {p : PR} {r : NN_} {a : List Nat} (K : Nat → Int32 → Int32 → AH → Option (Int32 × AH)) (hs1 : 1 ≤ s) (hs : s ≤ 3) (N120 : a.length ≤ 120) (ao4 : ∀ d, d ∈ a → d < 400) : ∀ g c n num fl (h : AH), (seg a r s c (128 ^ s - c)).length ≤ g → g < n → MaX h b p r → AlM h a → NxM h a r s c fl → ∃ h', X15_sets_B22 K n 195 (nI num) (nI s) (bI fl) h = X15_sets_B38 K 195 (nI (num + (seg a r s c (128 ^ s - c)).length)) (nI s) h' ∧ Fz MsA h h' := by
  intro g
  induction g with
  | zero =>
    intro c n num fl h hl hn C q nx
    obtain ⟨n, rfl⟩ : ∃ q, n = q + 1 := ⟨n - 1, by omega⟩
    rcases nx with ⟨rfl, nil⟩ | ⟨rfl, w, _, cons, _⟩
    · refine ⟨h, ?_, Fz.rf⟩
      rw [X15_sets_B22, if_pos (by decide), nil]; rfl
    · rw [cons] at hl
      have : (seg a r s (w + 1) (128 ^ s - (w + 1))).length + 1 ≤ 0 := hl
      omega
  | succ g ih =>
    intro c n num fl h hl hn C q nx
    obtain ⟨n, rfl⟩ : ∃ q, n = q + 1 := ⟨n - 1, by omega⟩
    rcases nx with ⟨rfl, nil⟩ | ⟨rfl, w, _, cons, it⟩
    · refine ⟨h, ?_, Fz.rf⟩
      rw [X15_sets_B22, if_pos (by decide), nil]; rfl
    · rw [cons] at hl ⊢
      have hl : (seg a r s (w + 1) (128 ^ s - (w + 1))).length + 1 ≤ g + 1 := hl
      obtain ⟨c9, h8, e8, F8, nx8⟩ := goes2_m hs1 hs N120 ao4 C q it
      obtain ⟨h9, e9, F9⟩ := ih (w + 1) n (num + 1) c9 h8 (by omega) (by omega) (C.fz F8 (fun a k c => MsA_n c)) (q.fz F8 (fun a k c => by unfold MsA; omega)) nx8
      refine ⟨h9, ?_, F8.tr F9⟩
      rw [X15_sets_B22, if_neg (by decide), nI_add, LT_e, G_t C.c.s.c195, e8, BN_ok, e9, List.length_cons, show num + 1 + (seg a r s (w + 1) (128 ^ s - (w + 1))).length = num + ((seg a r s (w + 1) (128 ^ s - (w + 1))).length + 1) by omega]
theorem sets_out {b : Nat} {p : PR} {r : NN_} {a : List Nat} (N120 : a.length ≤ 120) (ao4 : ∀ d, d ∈ a → d < 400) : ∀ j s n num (h : AH), 1 ≤ s → s + j = r 0 + r 1 + r 2 + r 3 + 1 → j < n → MaX h b p r → AlM h a → ∃ h', X15_sets_B8 n 195 (nI num) (nI s) h = some (nI (num + (ups a r s j).length), h') ∧ Fz MsA h h' := by
  intro j
  induction j with
  | zero =>
    intro s n num h hs1 hs hn C q
    obtain ⟨n, rfl⟩ : ∃ q, n = q + 1 := ⟨n - 1, by omega⟩
    have x := C.x
    refine ⟨h, ?_, Fz.rf⟩
    rw [X15_sets_B8, G_t C.c.s.c195, inPu_m C, BN_ok, if_pos (by rw [nI_tI (by omega) (by omega)]; omega)]; rfl
  | succ j ih =>
    intro s n num h hs1 hs hn C q
    obtain ⟨n, rfl⟩ : ∃ q, n = q + 1 := ⟨n - 1, by omega⟩
    have x := C.x
    have s3 : s ≤ 3 := by omega
    have p3 := p128_le s3
    obtain ⟨c1, h1, e1, F1, nx1⟩ := begins_m hs1 s3 N120 ao4 C q
    have C1 := C.fz F1 (fun a k c => MsA_n c)
    have q1 := q.fz F1 (fun a k c => by unfold MsA; omega)
    have sl := seg_len (a := a) (r := r) (s := s) (lo := 0) (n := 128 ^ s - 0)
    obtain ⟨h2, e2, F2⟩ := sets_in (X15_sets_B8 n) hs1 s3 N120 ao4 (128 ^ s) 0 FU num c1 h1 (by omega) (FU_gt (by omega)) C1 q1 nx1
    rw [Nat.sub_zero] at e2
    obtain ⟨h3, e3, F3⟩ := ih (s + 1) n (num + (seg a r s 0 (128 ^ s)).length) h2 (by omega) (by omega) (by omega) (C1.fz F2 (fun a k c => MsA_n c)) (q1.fz F2 (fun a k c => by unfold MsA; omega))
    refine ⟨h3, ?_, (F1.tr F2).tr F3⟩
    rw [X15_sets_B8, G_t C.c.s.c195, inPu_m C, BN_ok, if_neg (by rw [nI_tI (by omega) (by omega)]; omega), G_t C.c.s.c195, e1, BN_ok, e2]
    unfold X15_sets_B38
    rw [LT_e, nI_add, e3, ups_s, List.length_append, Nat.add_assoc]
theorem sets_m {h : AH} {b : Nat} {p : PR} {r : NN_} (C : MaX h b p r) : ∃ h', X15_sets_f 195 h = some (nI (ups (alF p r) r 1 (r 0 + r 1 + r 2 + r 3)).length, h') ∧ Fz (fun a k => AlA a k ∨ MsA a k) h h' := by
  have N120 := alF_len (r := r) C.c.q.w C.c.x
  have ao : ∀ y, y ∈ alF p r → y < 400 := fun y hy => (alF_ok C.c.q.w C.c.x hy).1.1
  obtain ⟨h1, e1, F1, q1⟩ := allFalls_m C
  have x := C.x
  obtain ⟨h2, e2, F2⟩ := sets_out N120 ao (r 0 + r 1 + r 2 + r 3) 1 FU 0 h1 (by omega) (by omega) (FU_gt (by omega)) (C.fz F1 (fun a k c => AlA_n c)) q1
  rw [Nat.zero_add] at e2
  refine ⟨h2, ?_, (F1.mo (fun a k q => .inl q)).tr (F2.mo (fun a k q => .inr q))⟩
  unfold X15_sets_f
  rw [G_t C.c.s.c195, e1, BN_ok]; exact e2
/-- without a book -/
theorem fallsOf_0 {h : AH} {wk k : Nat} (g : SG h) (u : xI h 147 k = nI 0) (hk : k < 4) : X5_fallsOf_f 146 wk (nI k) h = some (nI 0, h) := by
  have u1 : xI h 147 (nI k).toNatClampNeg = nI 0 := by rw [nI_cl (by omega)]; exact u
  unfold X5_fallsOf_f
  rw [G_t g.c146, g.r146_0, G_t g.c147, g.z147, G_gx (by omega) (by omega), u1, if_pos nI_0]
theorem fallCount_0 {h : AH} {wk : Nat} (g : SG h) (u : ∀ k, k < 4 → xI h 147 k = nI 0) : X5_fallCount_f 146 wk h = some (nI 0, h) := by
  have st : ∀ k n, k < 4 → X5_fallCount_B4 (n + 1) 146 wk (nI 0) (nI k) h = X5_fallCount_B4 n 146 wk (nI 0) (nI (k + 1)) h := fun k n hk => by
    rw [X5_fallCount_B4, if_neg (by rw [nI_lI (by omega) (by omega)]; omega), G_t g.c146, fallsOf_0 g (u k hk) hk, BN_ok, nI_add, LT_e, nI_add, LT_e]
  have fu : FU = 3999995 + 1 + 1 + 1 + 1 + 1 := by decide
  unfold X5_fallCount_f
  rw [fu, st 0 _ (by decide), st 1 _ (by decide), st 2 _ (by decide), st 3 _ (by decide), X5_fallCount_B4, if_pos (by decide)]
theorem setCount_0 {h : AH} {wk : Nat} (g : SG h) (u : ∀ k, k < 4 → xI h 147 k = nI 0) : X5_setCount_f 146 wk h = some (nI 0, h) := by
  have st : ∀ k n, k < 4 → X5_setCount_B4 (n + 1) 146 wk (nI 1) (nI k) h = X5_setCount_B4 n 146 wk (nI 1) (nI (k + 1)) h := fun k n hk => by
    have e := sc_in (wk := wk) (N := 0) (prod := 1) (X5_setCount_B4 n) g (u k hk) hk (by decide) (by decide) 0 0 FU (by omega) (by omega) (FU_gt (by omega))
    have e : X5_setCount_B26 (X5_setCount_B4 n) FU 146 wk (nI 1) (nI k) (nI 0) (nI 1) (nI 1) (nI 1) h = X5_setCount_B72 (X5_setCount_B4 n) 146 wk (nI 1) (nI k) (nI 1) h := e
    rw [X5_setCount_B4, if_neg (by rw [nI_lI (by omega) (by omega)]; omega), G_t g.c146, fallsOf_0 g (u k hk) hk, BN_ok, e]
    unfold X5_setCount_B72
    rw [pk_mul, LT_e, nI_add, LT_e]
  have fu : FU = 3999995 + 1 + 1 + 1 + 1 + 1 := by decide
  unfold X5_setCount_f
  rw [fu, st 0 _ (by decide), st 1 _ (by decide), st 2 _ (by decide), st 3 _ (by decide), X5_setCount_B4, if_pos (by decide)]
  unfold X5_setCount_B83
  rw [pk_sub (by decide)]
/-- what count tells -/
def ctV (h : AH) (b : Nat) (c9 c10 : Nat) : Nat → Int32
  | 0 => xI h b 0
  | 1 => xI h b 1
  | 2 => xI h b 2
  | 3 => xI h b 3
  | 4 => xI h b 4
  | 5 => xI h 62 1
  | 6 => xI h 120 1
  | 7 => xI h 126 1
  | 8 => xI h 1 14
  | 9 => nI c9
  | 10 => nI c10
  | 11 => xI h b 5
  | _ => xI h 62 2
theorem count_c {h : AH} {bo : Bool} {p : PR} {b m z : Nat} {l lm : List Nat} {s : LLn} {r : NN_} {lo lx : List Nat} (i : INV h bo p b m z l lm s r lo lx) {c9 c10 : Nat} (e9 : X5_fallCount_f 146 62 h = some (nI c9, h)) (e10 : X5_setCount_f 146 62 h = some (nI c10, h)) : ∀ j, j ≤ 12 → X11_count_f 1 (nI j) h = some (ctV h b c9 c10 j, h) := by
  have hs := bs_c i
  have g := i.g
  intro j hj
  unfold X11_count_f
  rw [G_t g.c1, g.r1_1, G_t g.c62, i.q.wb, LT_e]
  match j, hj with
  | 0, _ => rw [if_pos rfl, G_t hs.c]; rfl
  | 1, _ => rw [if_neg (by decide), if_pos rfl, G_t hs.c]; rfl
  | 2, _ => rw [if_neg (by decide), if_neg (by decide), if_pos rfl, G_t hs.c]; rfl
  | 3, _ => rw [if_neg (by decide), if_neg (by decide), if_neg (by decide), if_pos rfl, G_t hs.c]; rfl
  | 4, _ => rw [if_neg (by decide), if_neg (by decide), if_neg (by decide), if_neg (by decide), if_pos rfl, G_t hs.c]; rfl
  | 5, _ => rw [if_neg (by decide), if_neg (by decide), if_neg (by decide), if_neg (by decide), if_neg (by decide), if_pos rfl, G_t g.c1, G_t g.c62]; rfl
  | 6, _ => rw [if_neg (by decide), if_neg (by decide), if_neg (by decide), if_neg (by decide), if_neg (by decide), if_neg (by decide), if_pos rfl, G_t g.c1, g.r1_3, G_t g.c120]; rfl
  | 7, _ => rw [if_neg (by decide), if_neg (by decide), if_neg (by decide), if_neg (by decide), if_neg (by decide), if_neg (by decide), if_neg (by decide), if_pos rfl, G_t g.c1, g.r1_6, G_t g.c126]; rfl
  | 8, _ => rw [if_neg (by decide), if_neg (by decide), if_neg (by decide), if_neg (by decide), if_neg (by decide), if_neg (by decide), if_neg (by decide), if_neg (by decide), if_pos rfl, G_t g.c1]; rfl
  | 9, _ => rw [if_neg (by decide), if_neg (by decide), if_neg (by decide), if_neg (by decide), if_neg (by decide), if_neg (by decide), if_neg (by decide), if_neg (by decide), if_neg (by decide), if_pos rfl, G_t g.c1, g.r1_8, G_t g.c145, g.r145_0, G_t g.c146, e9, BN_ok]; rfl
  | 10, _ => rw [if_neg (by decide), if_neg (by decide), if_neg (by decide), if_neg (by decide), if_neg (by decide), if_neg (by decide), if_neg (by decide), if_neg (by decide), if_neg (by decide), if_neg (by decide), if_pos rfl, G_t g.c1, g.r1_8, G_t g.c145, g.r145_0, G_t g.c146, e10, BN_ok]; rfl
  | 11, _ => rw [if_neg (by decide), if_neg (by decide), if_neg (by decide), if_neg (by decide), if_neg (by decide), if_neg (by decide), if_neg (by decide), if_neg (by decide), if_neg (by decide), if_neg (by decide), if_neg (by decide), if_pos rfl, G_t hs.c]; rfl
  | 12, _ => rw [if_neg (by decide), if_neg (by decide), if_neg (by decide), if_neg (by decide), if_neg (by decide), if_neg (by decide), if_neg (by decide), if_neg (by decide), if_neg (by decide), if_neg (by decide), if_neg (by decide), if_neg (by decide), if_pos rfl, G_t g.c1, G_t g.c62]; rfl
theorem pr_count {h : AH} {bo : Bool} {p : PR} {b m z : Nat} {l lm : List Nat} {s : LLn} {r : NN_} {lo lx : List Nat} (i : INV h bo p b m z l lm s r lo lx) (x : Int32) : Pair (X11_count_f 1 x) (X15_count_f 195 x) h := by
  have g := i.g
  have gi := (i.g.i (a := 195) (k := 0) (v := nI 0))
  by_cases x13 : x = nI 13
  · subst x13
    refine Pair.get i (v := nI z) ?_ ?_
    · have hs := bs_c i
      unfold X11_count_f
      rw [G_t g.c1, g.r1_1, G_t g.c62, i.q.wb, LT_e, if_neg (by decide), if_neg (by decide), if_neg (by decide), if_neg (by decide), if_neg (by decide), if_neg (by decide), if_neg (by decide), if_neg (by decide), if_neg (by decide), if_neg (by decide), if_neg (by decide), if_neg (by decide), if_neg (by decide), if_pos rfl, G_t g.c1, g.r1_0, G_t g.c58, i.t.f1]
    · unfold X15_count_f
      rw [G_t g.c195, LT_e, if_pos rfl, G_t gi.c195, xI_ne (by omega), i.t.f2]
  · rcases in_m (x := x) (a := 0) (c := 12) (h := pI h 195 0 (nI 0)) (by decide) (by decide) with ⟨j, _, hj, rfl, em⟩ | ⟨bad, em⟩
    · cases bo
      · have B0 := i.b.b0 rfl
        obtain ⟨l0, lm0, s0, r0⟩ := i.n rfl
        have u0 : ∀ k, k < 4 → xI h 147 k = nI 0 := fun k hk => by rw [i.u.a k hk, r0 k hk]
        refine Pair.get i (v := nI 0) ?_ (by
          unfold X15_count_f
          rw [G_t g.c195, LT_e, if_neg x13, em, BN_ok, if_neg (by decide), G_t gi.c195, xR_pI, if_pos B0.mr])
        rw [count_c i (fallCount_0 g u0) (setCount_0 g u0) j hj]
        have f1 := i.f.n.s
        rw [l0] at f1
        have m1 := i.m.n.s
        rw [lm0] at m1
        have k1 := i.k.c
        rw [s0] at k1
        have : ctV h b 0 0 j = nI 0 := by
          match j, hj with
          | 0, _ => exact B0.z 0 (by decide)
          | 1, _ => exact B0.z 1 (by decide)
          | 2, _ => exact B0.z 2 (by decide)
          | 3, _ => exact B0.z 3 (by decide)
          | 4, _ => exact B0.z 4 (by decide)
          | 5, _ => exact B0.l
          | 6, _ => exact f1
          | 7, _ => exact m1
          | 8, _ => exact k1
          | 9, _ => rfl
          | 10, _ => rfl
          | 11, _ => exact B0.z 5 (by decide)
          | 12, _ => exact B0.S
        rw [this]
      · have B := i.b.b1 rfl
        have hr := mr_ne i rfl
        have C := i.cax rfl Fz.rf
        have cc := count_c i (fallCount_c C) (setCount_c C) j hj
        have M0 : MaX (pI h 195 0 (nI 0)) m p r := i.max rfl (Fz.i sc0)
        have q := M0.c.q
        have r4 := M0.c.r4
        have pre : ∀ {α : Type} (f g' : Option α), (if xR (pI h 195 0 (nI 0)) 195 4 = 0 then f else g') = g' := fun f g' => if_neg hr
        match j, hj with
        | 0, _ =>
          have cv : ctV h b (alF p r).length (ups (alF p r) r 1 (r 0 + r 1 + r 2 + r 3)).length 0 = _ := B.q.m
          rw [cv] at cc
          refine Pair.get i cc ?_
          unfold X15_count_f
          rw [G_t g.c195, LT_e, if_neg x13, em, BN_ok, if_neg (by decide), G_t gi.c195, pre, if_pos rfl, G_t gi.c195, r4, G_t q.s.c, q.m]
        | 1, _ =>
          have cv : ctV h b (alF p r).length (ups (alF p r) r 1 (r 0 + r 1 + r 2 + r 3)).length 1 = _ := B.q.r
          rw [cv] at cc
          refine Pair.get i cc ?_
          unfold X15_count_f
          rw [G_t g.c195, LT_e, if_neg x13, em, BN_ok, if_neg (by decide), G_t gi.c195, pre, if_neg (by decide), if_pos rfl, G_t gi.c195, r4, G_t q.s.c, q.r]
        | 2, _ =>
          have cv : ctV h b (alF p r).length (ups (alF p r) r 1 (r 0 + r 1 + r 2 + r 3)).length 2 = _ := B.q.f
          rw [cv] at cc
          refine Pair.get i cc ?_
          unfold X15_count_f
          rw [G_t g.c195, LT_e, if_neg x13, em, BN_ok, if_neg (by decide), G_t gi.c195, pre, if_neg (by decide), if_neg (by decide), if_pos rfl, G_t gi.c195, r4, G_t q.s.c, q.f]
        | 3, _ =>
          have cv : ctV h b (alF p r).length (ups (alF p r) r 1 (r 0 + r 1 + r 2 + r 3)).length 3 = _ := B.q.u
          rw [cv] at cc
          refine Pair.get i cc ?_
          unfold X15_count_f
          rw [G_t g.c195, LT_e, if_neg x13, em, BN_ok, if_neg (by decide), G_t gi.c195, pre, if_neg (by decide), if_neg (by decide), if_neg (by decide), if_pos rfl, G_t gi.c195, r4, G_t q.s.c, q.u]
        | 4, _ =>
          have cv : ctV h b (alF p r).length (ups (alF p r) r 1 (r 0 + r 1 + r 2 + r 3)).length 4 = _ := B.q.sn
          rw [cv] at cc
          refine Pair.get i cc ?_
          unfold X15_count_f
          rw [G_t g.c195, LT_e, if_neg x13, em, BN_ok, if_neg (by decide), G_t gi.c195, pre, if_neg (by decide), if_neg (by decide), if_neg (by decide), if_neg (by decide), if_pos rfl, G_t gi.c195, r4, G_t q.s.c, q.sn]
        | 5, _ =>
          have cv : ctV h b (alF p r).length (ups (alF p r) r 1 (r 0 + r 1 + r 2 + r 3)).length 5 = _ := B.w.l
          rw [cv] at cc
          refine Pair.get i cc ?_
          unfold X15_count_f
          rw [G_t g.c195, LT_e, if_neg x13, em, BN_ok, if_neg (by decide), G_t gi.c195, pre, if_neg (by decide), if_neg (by decide), if_neg (by decide), if_neg (by decide), if_neg (by decide), if_pos rfl, G_t gi.c195, M0.c.l]
        | 6, _ =>
          have cv : ctV h b (alF p r).length (ups (alF p r) r 1 (r 0 + r 1 + r 2 + r 3)).length 6 = _ := i.f.n.s
          rw [cv] at cc
          refine Pair.get i cc ?_
          unfold X15_count_f
          rw [G_t g.c195, LT_e, if_neg x13, em, BN_ok, if_neg (by decide), G_t gi.c195, pre, if_neg (by decide), if_neg (by decide), if_neg (by decide), if_neg (by decide), if_neg (by decide), if_neg (by decide), if_pos rfl, G_t gi.c195, xI_ne (by omega), i.f.m]
        | 7, _ =>
          have cv : ctV h b (alF p r).length (ups (alF p r) r 1 (r 0 + r 1 + r 2 + r 3)).length 7 = _ := i.m.n.s
          rw [cv] at cc
          refine Pair.get i cc ?_
          unfold X15_count_f
          rw [G_t g.c195, LT_e, if_neg x13, em, BN_ok, if_neg (by decide), G_t gi.c195, pre, if_neg (by decide), if_neg (by decide), if_neg (by decide), if_neg (by decide), if_neg (by decide), if_neg (by decide), if_neg (by decide), if_pos rfl, G_t gi.c195, xI_ne (by omega), i.m.m]
        | 8, _ =>
          have cv : ctV h b (alF p r).length (ups (alF p r) r 1 (r 0 + r 1 + r 2 + r 3)).length 8 = _ := i.k.c
          rw [cv] at cc
          refine Pair.get i cc ?_
          unfold X15_count_f
          rw [G_t g.c195, LT_e, if_neg x13, em, BN_ok, if_neg (by decide), G_t gi.c195, pre, if_neg (by decide), if_neg (by decide), if_neg (by decide), if_neg (by decide), if_neg (by decide), if_neg (by decide), if_neg (by decide), if_neg (by decide), if_pos rfl, G_t gi.c195, xI_ne (by omega), i.k.m]
        | 9, _ =>
          obtain ⟨k2, e2, F2, q2⟩ := allFalls_m M0
          have g2 := gi.fz F2
          have Fs : Fz (SCR m) h k2 := (Fz.i sc0).tr (F2.mo (fun a k q => AlA_scr q))
          refine ⟨nI (alF p r).length, h, k2, cc, g.c195, ?_, ⟨_, _, _, _, _, _, _, _, _, _, _, i.fz Fs (F2.st (fun a k q => by unfold AlA; omega) i.t0.st)⟩, by rw [Fs.n]; omega, by rw [Fs.s]; omega⟩
          unfold X15_count_f
          rw [G_t g.c195, LT_e, if_neg x13, em, BN_ok, if_neg (by decide), G_t gi.c195, pre, if_neg (by decide), if_neg (by decide), if_neg (by decide), if_neg (by decide), if_neg (by decide), if_neg (by decide), if_neg (by decide), if_neg (by decide), if_neg (by decide), if_pos rfl, G_t gi.c195, e2, BN_ok, G_t g2.c195, q2.1]
        | 10, _ =>
          obtain ⟨k2, e2, F2⟩ := sets_m M0
          have Fs : Fz (SCR m) h k2 := (Fz.i sc0).tr (F2.mo (fun a k q => by unfold AlA MsA at q; unfold SCR; omega))
          refine ⟨nI (ups (alF p r) r 1 (r 0 + r 1 + r 2 + r 3)).length, h, k2, cc, g.c195, ?_, ⟨_, _, _, _, _, _, _, _, _, _, _, i.fz Fs (F2.st (fun a k q => by unfold AlA MsA; omega) i.t0.st)⟩, by rw [Fs.n]; omega, by rw [Fs.s]; omega⟩
          unfold X15_count_f
          rw [G_t g.c195, LT_e, if_neg x13, em, BN_ok, if_neg (by decide), G_t gi.c195, pre, if_neg (by decide), if_neg (by decide), if_neg (by decide), if_neg (by decide), if_neg (by decide), if_neg (by decide), if_neg (by decide), if_neg (by decide), if_neg (by decide), if_neg (by decide), if_pos rfl, G_t gi.c195, e2, BN_ok]
        | 11, _ =>
          have cv : ctV h b (alF p r).length (ups (alF p r) r 1 (r 0 + r 1 + r 2 + r 3)).length 11 = _ := B.q.y
          rw [cv] at cc
          refine Pair.get i cc ?_
          unfold X15_count_f
          rw [G_t g.c195, LT_e, if_neg x13, em, BN_ok, if_neg (by decide), G_t gi.c195, pre, if_neg (by decide), if_neg (by decide), if_neg (by decide), if_neg (by decide), if_neg (by decide), if_neg (by decide), if_neg (by decide), if_neg (by decide), if_neg (by decide), if_neg (by decide), if_neg (by decide), if_pos rfl, G_t gi.c195, r4, G_t q.s.c, q.y]
        | 12, _ =>
          have cv : ctV h b (alF p r).length (ups (alF p r) r 1 (r 0 + r 1 + r 2 + r 3)).length 12 = _ := B.w.S
          rw [cv] at cc
          refine Pair.get i cc ?_
          unfold X15_count_f
          rw [G_t g.c195, LT_e, if_neg x13, em, BN_ok, if_neg (by decide), G_t gi.c195, pre, if_neg (by decide), if_neg (by decide), if_neg (by decide), if_neg (by decide), if_neg (by decide), if_neg (by decide), if_neg (by decide), if_neg (by decide), if_neg (by decide), if_neg (by decide), if_neg (by decide), if_neg (by decide), G_t gi.c195, M0.c.S]
    · refine Pair.get i (v := -1) ?_ ?_
      · have hs := bs_c i
        have ne : ∀ k, k ≤ 12 → x ≠ nI k := fun k hk e => by
          subst e
          rcases bad with q | q
          · exact nI_pos (by omega) q
          · rw [nI_tI (by omega) (by omega)] at q; omega
        unfold X11_count_f
        rw [G_t g.c1, g.r1_1, G_t g.c62, i.q.wb, LT_e, if_neg (ne 0 (by decide)), if_neg (ne 1 (by decide)), if_neg (ne 2 (by decide)), if_neg (ne 3 (by decide)), if_neg (ne 4 (by decide)), if_neg (ne 5 (by decide)), if_neg (ne 6 (by decide)), if_neg (ne 7 (by decide)), if_neg (ne 8 (by decide)), if_neg (ne 9 (by decide)), if_neg (ne 10 (by decide)), if_neg (ne 11 (by decide)), if_neg (ne 12 (by decide)), if_neg x13]
      · unfold X15_count_f
        rw [G_t g.c195, LT_e, if_neg x13, em, BN_ok, if_pos nI_0]
