def ExM (h : AH) (f : List Nat) : Prop := xI h 195 43 = nI f.length ∧ mL h 221 0 f
def ExF : Nat → Nat → Prop := fun a k => a = 218 ∨ a = 219 ∨ (203 ≤ a ∧ a ≤ 205) ∨ (210 ≤ a ∧ a ≤ 214) ∨ a = 195 ∧ k = 43 ∨ a = 221
theorem ExF_n {a k : Nat} (c : ExF a k) : a < 227 ∧ a ≠ 198 ∧ (a = 195 → k = 36 ∨ k = 42 ∨ k = 43 ∨ k ≤ 2) := by unfold ExF at c; omega
theorem ExF_a {a k : Nat} (q : a = 195 ∧ k = 36 ∨ a = 217) : ¬ ExF a k := by unfold ExF; omega
theorem seg_len {a : List Nat} {r : NN_} {s lo n : Nat} : (seg a r s lo n).length ≤ n := by
  unfold seg
  rw [List.length_map]
  refine Nat.le_trans (List.length_filter_le ..) ?_
  rw [List.length_range']; exact Nat.le_refl _
theorem exL_le {p : PR} : ∀ L x, (exL p x L).1 ≤ x.1 + L.length := by
  intro L
  induction L with
  | nil => intro x; exact Nat.le_refl _
  | cons l L ih =>
    intro x
    show (exL p (exS p x l) L).1 ≤ x.1 + (L.length + 1)
    refine Nat.le_trans (ih _) ?_
    unfold exS
    split
    · show x.1 + 1 + L.length ≤ _; omega
    · omega
theorem sL_len {a : List Nat} {s v : Nat} (hs : s ≤ 3) : (sL a s v).length = s := by unfold sL; rw [List.length_map, sD_len hs]
theorem ItM.fz {A : Nat → Nat → Prop} {h h' : AH} {a : List Nat} {r : NN_} {s v : Nat} (F : Fz A h h') (n : ∀ x k, (x = 218 ∨ x = 219) → ¬ A x k) (i : ItM h a r s v) : ItM h' a r s v := ⟨i.v, i.p, i.k.fz F (fun k => n _ _ (by omega)), i.e.fz F (fun k => n _ _ (by omega))⟩
/-- a set is run by the reference -/
theorem run_set {h : AH} {b s v k : Nat} {p : PR} {r : NN_} {a : List Nat} (C : MaX h b p r) (hs : s ≤ 3) (N120 : a.length ≤ 120) (ao : ∀ y, y ∈ a → OKf y) (i : ItM h a r s v) (hk : k < 104) : ∃ h', X15_runs_f 195 (nI k) 219 (nI 0) (nI s) h = some (nI (outB p (flOf (sL a s v))), h') ∧ Fr (fun x => (203 ≤ x ∧ x ≤ 205) ∨ (210 ≤ x ∧ x ≤ 214)) h h' ∧ (∀ k' (p' : PR) f', k' ≠ k → p'.1 0 0 ≤ 4 → p'.1 4 0 ≤ 6 → pl p' ≤ 6 → IsSl h k' p' f' → IsSl h' k' p' f') ∧ IsSl h' k p (flOf (sL a s v)) := by
  have V : vld a.length (sD s v) = true := by have := i.p; unfold PS at this; exact ((Bool.and_eq_true _ _).mp this).1
  have ll := sL_len (a := a) (v := v) hs
  have z := C.c.s.z219
  have := runs_m (k := k) (i0 := 0) (l := sL a s v) C.c hk C.c.s.c219 (by omega) (by omega) i.e (OKf_sL hs N120 ao V) (by decide)
  rw [ll] at this
  exact this
theorem exm_in {b s : Nat} {p : PR} {r : NN_} {a : List Nat} (K : Nat → Int32 → Int32 → AH → Option (Int32 × AH)) (hs1 : 1 ≤ s) (hs : s ≤ 3) (N120 : a.length ≤ 120) (ao : ∀ y, y ∈ a → OKf y) : ∀ g c n num f fl (h : AH), (seg a r s c (128 ^ s - c)).length ≤ g → g < n → num + g < 100000000 → MaX h b p r → AlM h a → NxM h a r s c fl → ExM h f → ∃ h', X15_exact_B54 K n 195 (nI num) (nI s) (bI fl) h = X15_exact_B126 K 195 (nI (exL p (num, f) (seg a r s c (128 ^ s - c))).1) (nI s) h' ∧ Fz ExF h h' ∧ ExM h' (exL p (num, f) (seg a r s c (128 ^ s - c))).2 := by
  have ao4 : ∀ d, d ∈ a → d < 400 := fun d hd => (ao d hd).1
  intro g
  induction g with
  | zero =>
    intro c n num f fl h hl hn hb C q nx E
    obtain ⟨n, rfl⟩ : ∃ q, n = q + 1 := ⟨n - 1, by omega⟩
    rcases nx with ⟨rfl, nil⟩ | ⟨rfl, w, _, cons, _⟩
    · refine ⟨h, ?_, Fz.rf, by rw [nil]; exact E⟩
      rw [X15_exact_B54, if_pos (by decide), nil]; rfl
    · rw [cons] at hl
      have : (seg a r s (w + 1) (128 ^ s - (w + 1))).length + 1 ≤ 0 := hl
      omega
  | succ g ih =>
    intro c n num f fl h hl hn hb C q nx E
    obtain ⟨n, rfl⟩ : ∃ q, n = q + 1 := ⟨n - 1, by omega⟩
    rcases nx with ⟨rfl, nil⟩ | ⟨rfl, w, _, cons, it⟩
    · refine ⟨h, ?_, Fz.rf, by rw [nil]; exact E⟩
      rw [X15_exact_B54, if_pos (by decide), nil]; rfl
    · rw [cons] at hl ⊢
      have hl : (seg a r s (w + 1) (128 ^ s - (w + 1))).length + 1 ≤ g + 1 := hl
      have ll := sL_len (a := a) (v := w) hs
      have sg := C.c.s
      obtain ⟨h2, e2, F2, _, _⟩ := run_set C hs N120 ao it (by decide : 2 < 104)
      have ob := outB_le (p := p) (f := flOf (sL a s w))
      have FF2 : Fz ExF h h2 := F2.q.f.mo (fun a k q => by unfold ExF; omega)
      have C2 := C.fz FF2 (fun a k c => ExF_n c)
      have q2 := q.fz FF2 (fun a k c => ExF_a c)
      have it2 : ItM h2 a r s w := it.fz F2.q.f (fun x k c => by omega)
      have E2 : ExM h2 f := ⟨by rw [F2.I _ (by decide)]; exact E.1, fun i hi => by rw [F2.I _ (by decide)]; exact E.2 i hi⟩
      have cont : ∀ num' f' h', num' ≤ num + 1 → MaX h' b p r → AlM h' a → ItM h' a r s w → ExM h' f' → Fz ExF h h' → exS p (num, f) (sL a s w) = (num', f') → ∃ h9, X15_exact_B117 K (X15_exact_B54 K n) 195 (nI num') (nI s) h' = X15_exact_B126 K 195 (nI (exL p (num, f) (sL a s w :: seg a r s (w + 1) (128 ^ s - (w + 1)))).1) (nI s) h9 ∧ Fz ExF h h9 ∧ ExM h9 (exL p (num, f) (sL a s w :: seg a r s (w + 1) (128 ^ s - (w + 1)))).2 := fun num' f' h' hn' C' q' it' E' F' ee => by
        obtain ⟨c9, h8, e8, F8, nx8⟩ := goes2_m hs1 hs N120 ao4 C' q' it'
        have FF8 : Fz ExF h' h8 := F8.mo (fun a k q => by unfold MsA at q; unfold ExF; omega)
        have E8 : ExM h8 f' := ⟨by rw [F8.I (by unfold MsA; omega)]; exact E'.1, fun i hi => by rw [F8.I (by unfold MsA; omega)]; exact E'.2 i hi⟩
        obtain ⟨h9, e9, F9, E9⟩ := ih (w + 1) n num' f' c9 h8 (by omega) (by omega) (by omega) (C'.fz FF8 (fun a k c => ExF_n c)) (q'.fz FF8 (fun a k c => ExF_a c)) nx8 E8
        have ex : exL p (num, f) (sL a s w :: seg a r s (w + 1) (128 ^ s - (w + 1))) = exL p (num', f') (seg a r s (w + 1) (128 ^ s - (w + 1))) := by
          show exL p (exS p (num, f) (sL a s w)) _ = _
          rw [ee]
        rw [ex]
        refine ⟨h9, ?_, (F'.tr FF8).tr F9, E9⟩
        unfold X15_exact_B117
        rw [G_t C'.c.s.c195, e8, BN_ok]; exact e9
      have hdr : X15_exact_B54 K (n + 1) 195 (nI num) (nI s) (bI true) h = if nI (outB p (flOf (sL a s w))) = nI 2 then (if nI num = 0 then (G (xc h2 195 = 15) <| LT (pI h2 195 43 (nI s)) fun h5 => X15_exact_B88 K (X15_exact_B54 K n) FU 195 (nI num) (nI s) (nI 0) h5) else X15_exact_B114 K (X15_exact_B54 K n) 195 (nI num) (nI s) h2) else X15_exact_B117 K (X15_exact_B54 K n) 195 (nI num) (nI s) h2 := by
        rw [X15_exact_B54, if_neg (by decide), G_t sg.c195, sg.r195_39, e2, BN_ok]
      rw [hdr]
      by_cases eo : outB p (flOf (sL a s w)) = 2
      · rw [if_pos (by rw [eo])]
        by_cases n0 : num = 0
        · rw [if_pos (by rw [n0]; exact nI_0), G_t C2.c.s.c195, LT_e]
          obtain ⟨h4, ⟨F4, v4⟩, e4⟩ := loopE (F := fun g k h' => X15_exact_B88 K (X15_exact_B54 K n) g 195 (nI num) (nI s) (nI k) h') (E := fun h' => X15_exact_B114 K (X15_exact_B54 K n) 195 (nI num) (nI s) h') s (fun k h' => Fr (fun x => x = 221) (pI h2 195 43 (nI s)) h' ∧ ∀ i, i < k → xI h' 221 i = nI ((sL a s w).getD i 0)) (Nat.zero_le _) (by omega) (h := pI h2 195 43 (nI s)) ⟨Fr.rf, fun i hi => absurd hi (Nat.not_lt_zero _)⟩
            (by
              rintro m k h' hk ⟨F, v⟩
              have s' := C2.c.s.i.fr F
              have v1 : xI h' 219 (nI k).toNatClampNeg = nI ((sL a s w).getD k 0) := by
                have := it2.e k (by omega)
                rw [Nat.zero_add] at this
                rw [nI_cl (by omega), F.I _ (by decide), xI_ne (by omega)]; exact this
              refine ⟨pI h' 221 k (nI ((sL a s w).getD k 0)), ⟨F.tr (Fr.i rfl), fun i hi => ?_⟩, ?_⟩
              · by_cases e : i = k
                · rw [e, xI_self]
                · rw [xI_ne (by omega)]; exact v i (by omega)
              · show X15_exact_B88 K (X15_exact_B54 K n) (m + 1) 195 (nI num) (nI s) (nI k) h' = _
                rw [X15_exact_B88]
                rw [if_neg (by rw [nI_lI (by omega) (by omega)]; omega), G_t s'.c195, s'.r195_39, G_t s'.c219, s'.z219, G_gx (by omega) (by omega), s'.r195_45, G_t s'.c221, s'.z221, G_gx (by omega) (by omega), v1, LT_e, nI_cl (by omega), nI_add, LT_e])
            (by
              rintro m h' ⟨F, v⟩
              show X15_exact_B88 K (X15_exact_B54 K n) (m + 1) 195 (nI num) (nI s) (nI s) h' = _
              rw [X15_exact_B88, if_pos (by rw [nI_lI (by omega) (by omega)]; omega)])
          have FF4 : Fz ExF h2 h4 := (Fz.i (by unfold ExF; omega)).tr (F4.q.f.mo (fun a k q => by unfold ExF; omega))
          have e4 : X15_exact_B88 K (X15_exact_B54 K n) FU 195 (nI num) (nI s) (nI 0) (pI h2 195 43 (nI s)) = X15_exact_B114 K (X15_exact_B54 K n) 195 (nI num) (nI s) h4 := e4
          rw [e4]
          unfold X15_exact_B114
          rw [nI_add, LT_e]
          refine cont (num + 1) (sL a s w) h4 (by omega) (C2.fz FF4 (fun a k c => ExF_n c)) (q2.fz FF4 (fun a k c => ExF_a c)) ⟨it2.v, it2.p, fun i hi => ?_, fun i hi => ?_⟩ ⟨by rw [F4.I _ (by decide), xI_self, ll], fun i hi => by rw [Nat.zero_add]; exact v4 i (by omega)⟩ (FF2.tr FF4) (by unfold exS; rw [if_pos eo]; show (num + 1, if num = 0 then _ else _) = _; rw [if_pos n0])
          · rw [F4.I _ (by decide), xI_ne (by omega)]; exact it2.k i hi
          · rw [F4.I _ (by decide), xI_ne (by omega)]; exact it2.e i hi
        · rw [if_neg (nI_ne0 (by omega) (by omega))]
          unfold X15_exact_B114
          rw [nI_add, LT_e]
          exact cont (num + 1) f h2 (by omega) C2 q2 it2 E2 FF2 (by unfold exS; rw [if_pos eo]; show (num + 1, if num = 0 then _ else _) = _; rw [if_neg n0])
      · rw [if_neg (by rw [nI_eI (by omega) (by omega)]; exact eo)]
        exact cont num f h2 (by omega) C2 q2 it2 E2 FF2 (by unfold exS; rw [if_neg eo])
theorem exm_out {b : Nat} {p : PR} {r : NN_} {a : List Nat} (N120 : a.length ≤ 120) (ao : ∀ y, y ∈ a → OKf y) : ∀ j s n num f (h : AH), 1 ≤ s → s + j = r 0 + r 1 + r 2 + r 3 + 1 → j < n → num ≤ (s - 1) * 2097152 → MaX h b p r → AlM h a → ExM h f → ∃ h', X15_exact_B40 n 195 (nI num) (nI s) h = X15_exact_B132 195 (nI (exL p (num, f) (ups a r s j)).1) h' ∧ Fz ExF h h' ∧ ExM h' (exL p (num, f) (ups a r s j)).2 := by
  have ao4 : ∀ d, d ∈ a → d < 400 := fun d hd => (ao d hd).1
  intro j
  induction j with
  | zero =>
    intro s n num f h hs1 hs hn hb C q E
    obtain ⟨n, rfl⟩ : ∃ q, n = q + 1 := ⟨n - 1, by omega⟩
    have x := C.x
    refine ⟨h, ?_, Fz.rf, E⟩
    rw [X15_exact_B40, G_t C.c.s.c195, inPu_m C, BN_ok, if_pos (by rw [nI_tI (by omega) (by omega)]; omega)]; rfl
  | succ j ih =>
    intro s n num f h hs1 hs hn hb C q E
    obtain ⟨n, rfl⟩ : ∃ q, n = q + 1 := ⟨n - 1, by omega⟩
    have x := C.x
    have s3 : s ≤ 3 := by omega
    have p3 := p128_le s3
    obtain ⟨c1, h1, e1, F1, nx1⟩ := begins_m hs1 s3 N120 ao4 C q
    have FF1 : Fz ExF h h1 := F1.mo (fun a k q => by unfold MsA at q; unfold ExF; omega)
    have C1 := C.fz FF1 (fun a k c => ExF_n c)
    have q1 := q.fz FF1 (fun a k c => ExF_a c)
    have E1 : ExM h1 f := ⟨by rw [F1.I (by unfold MsA; omega)]; exact E.1, fun i hi => by rw [F1.I (by unfold MsA; omega)]; exact E.2 i hi⟩
    have sl := seg_len (a := a) (r := r) (s := s) (lo := 0) (n := 128 ^ s - 0)
    obtain ⟨h2, e2, F2, E2⟩ := exm_in (X15_exact_B40 n) hs1 s3 N120 ao (128 ^ s) 0 FU num f c1 h1 (by omega) (FU_gt (by omega)) (by omega) C1 q1 nx1 E1
    rw [Nat.sub_zero] at e2 E2
    have le := exL_le (p := p) (seg a r s 0 (128 ^ s)) (num, f)
    have le : (exL p (num, f) (seg a r s 0 (128 ^ s))).1 ≤ num + (seg a r s 0 (128 ^ s)).length := le
    rw [Nat.sub_zero] at sl
    obtain ⟨h3, e3, F3, E3⟩ := ih (s + 1) n (exL p (num, f) (seg a r s 0 (128 ^ s))).1 (exL p (num, f) (seg a r s 0 (128 ^ s))).2 h2 (by omega) (by omega) (by omega) (by omega) (C1.fz F2 (fun a k c => ExF_n c)) (q1.fz F2 (fun a k c => ExF_a c)) E2
    rw [ups_s, exL_app]
    refine ⟨h3, ?_, (FF1.tr F2).tr F3, E3⟩
    rw [X15_exact_B40, G_t C.c.s.c195, inPu_m C, BN_ok, if_neg (by rw [nI_tI (by omega) (by omega)]; omega), G_t C.c.s.c195, e1, BN_ok, e2]
    unfold X15_exact_B126
    rw [LT_e, nI_add]; exact e3
theorem INV.cax {h k : AH} {bo : Bool} {p : PR} {b m z : Nat} {l lm : List Nat} {s : LLn} {r : NN_} {lo lx : List Nat} (i : INV h bo p b m z l lm s r lo lx) (hb : bo = true) (F : Fz (SCR m) h k) : CaX_ k 62 b p r := by
  have B := (i.b.fz F (fun a k q => sB_ q) i.bb).b1 hb
  have u := i.u.fz F (fun a k q => sU_ q)
  exact ⟨i.g.fz F, B.w, B.q, u.a, u.x, B.n, B.x⟩
theorem INV.max {h k : AH} {bo : Bool} {p : PR} {b m z : Nat} {l lm : List Nat} {s : LLn} {r : NN_} {lo lx : List Nat} (i : INV h bo p b m z l lm s r lo lx) (hb : bo = true) (F : Fz (SCR m) h k) : MaX k m p r := by
  have B := (i.b.fz F (fun a k q => sB_ q) i.bb).b1 hb
  have u := i.u.fz F (fun a k q => sU_ q)
  exact ⟨B.mox (i.g.fz F), u.b, u.x⟩
theorem AlA_scr {m a k : Nat} (q : AlA a k) : SCR m a k := by unfold AlA at q; unfold SCR; omega
theorem pr_exact {h : AH} {bo : Bool} {p : PR} {b m z : Nat} {l lm : List Nat} {s : LLn} {r : NN_} {lo lx : List Nat} (i : INV h bo p b m z l lm s r lo lx) : Pair (X11_exact_f 1) (X15_exact_f 195) h := by
  have gi := fun (v : Int32) => (i.g.i (a := 1) (k := 15) (v := v))
  cases bo
  · have hr := (i.b.b0 rfl).mr
    refine Pair.no i (nI 1) (-1) n4_1 ?_ ?_
    · unfold X11_exact_f
      rw [G_t i.g.c1, i.q.hb, if_pos (by decide), G_t i.g.c1, refuse_c i.g, BN_ok]
    · unfold X15_exact_f
      rw [G_t (gi _).c195, LT_e, G_t (gi _).i.c195, xR_pI, xR_pI, if_pos hr, G_t (gi _).i.c195, refused_m (gi _).i, BN_ok]
  · have hr := mr_ne i rfl
    have B := i.b.b1 rfl
    have x := i.u.x
    have C := i.cax rfl Fz.rf
    have N120 := alF_len (r := r) B.q.w B.x
    have ao : ∀ y, y ∈ alF p r → OKf y := fun y hy => (alF_ok B.q.w B.x hy).1
    cases too : tooB p r
    · obtain ⟨h1, e1, F1, I1⟩ := runAll_f C i.e.n.nus
      have g1 := i.g.fq F1
      have Fs1 : Fz (fun a k => SCR m a k ∨ a = 164 ∨ a = 165 ∨ a = 221 ∨ a = 195 ∧ k = 43) h h1 := F1.f.mo (fun a k q => by unfold ExA at q; unfold SCR; omega)
      obtain ⟨hc, hce⟩ : ∃ hc, hc = pI h1 1 15 (nI 0) := ⟨_, rfl⟩
      have gc : SG hc := by rw [hce]; exact g1.i
      have Fc : Fz (fun a k => SCR m a k ∨ a = 164 ∨ a = 165 ∨ a = 221 ∨ a = 195 ∧ k = 43) h (pI hc 195 0 (nI 0)) := by
        rw [hce]
        exact (Fs1.tr (Fz.i (.inl scA))).tr (Fz.i (.inl sc0))
      have Bc := B.fz Fc (fun a k q c => c.elim (sB_ (by have := B.mq.s.lo; omega)) (by have := B.mq.s.lo; omega)) i.bb
      have uc := i.u.fz Fc (fun a k q c => c.elim (sU_ q) (by omega))
      have Mc : MaX (pI hc 195 0 (nI 0)) m p r := ⟨Bc.mox gc.i, uc.b, uc.x⟩
      obtain ⟨k2, e2, F2, q2⟩ := isTooMany_m Mc
      rw [too] at e2
      have g2 := gc.i.fz F2
      have M2 := Mc.fz F2 (fun a k c => AlA_n c)
      have F3 : Fz ExF k2 (pI k2 195 43 (nI 0)) := Fz.i (by unfold ExF; omega)
      obtain ⟨k4, e4, F4, E4⟩ := exm_out N120 ao (r 0 + r 1 + r 2 + r 3) 1 FU 0 [] (pI k2 195 43 (nI 0)) (by omega) (by omega) (FU_gt (by omega)) (by omega) (M2.fz F3 (fun a k c => ExF_n c)) (q2.fz F3 (fun a k c => ExF_a c)) ⟨xI_self, fun i hi => absurd hi (Nat.not_lt_zero _)⟩
      have g4 := (g2.fz F3).fz F4
      generalize hL : exL p (0, []) (ups (alF p r) r 1 (r 0 + r 1 + r 2 + r 3)) = L at *
      obtain ⟨h5, h5e⟩ : ∃ h5, h5 = pI (pI k4 195 1 (nI 0)) 195 2 (-1) := ⟨_, rfl⟩
      have cm : ∀ a k, ExF a k → SCR m a k ∨ a = 164 ∨ a = 165 ∨ a = 221 ∨ a = 195 ∧ k = 43 := fun a k q => by unfold ExF at q; unfold SCR; omega
      have F : Fz (fun a k => SCR m a k ∨ a = 164 ∨ a = 165 ∨ a = 221 ∨ a = 195 ∧ k = 43) h h5 := by
        rw [h5e]
        exact ((((Fc.tr (F2.mo (fun a k q => .inl (AlA_scr q)))).tr (F3.mo cm)).tr (F4.mo cm)).tr (Fz.i (.inl sc1))).tr (Fz.i (.inl sc2))
      have Fx : Fz (fun a k => a = 1 ∨ a = 195 ∨ AlA a k ∨ ExF a k) h1 h5 := by
        rw [h5e]
        refine ((((Fz.tr ?_ (F2.mo (fun a k q => .inr (.inr (.inl q))))).tr (F3.mo (fun a k q => .inr (.inr (.inr q))))).tr (F4.mo (fun a k q => .inr (.inr (.inr q))))).tr (Fz.i (by omega))).tr (Fz.i (by omega))
        rw [hce]
        exact (Fz.i (by omega)).tr (Fz.i (by omega))
      refine ⟨nI L.1, hc, h5, ?_, gc.c195, ?_, ⟨true, p, b, m, z, l, lm, s, r, lo, L.2, ?_⟩, by rw [F.n]; omega, by rw [F.s]; omega⟩
      · unfold X11_exact_f
        rw [G_t i.g.c1, i.q.hb, if_neg (by decide), G_t i.g.c1, i.g.r1_8, G_t i.g.c145, i.g.r145_0, G_t i.g.c146, i.g.r1_1, isTooMuch_c C, BN_ok, too, if_pos (by decide), G_t i.g.c1, i.g.r1_8, G_t i.g.c145, i.g.r1_1, e1, BN_ok, G_t g1.c1, grant_c g1, BN_ok, hce]
      · have hr2 : ¬ xR (pI hc 195 0 (nI 0)) 195 4 = 0 := by rw [Fc.r _ (by decide)]; exact hr
        unfold X15_exact_f
        rw [G_t gc.c195, LT_e, G_t gc.i.c195, if_neg hr2, G_t gc.i.c195, e2, BN_ok, if_pos (by decide), G_t g2.c195, LT_e, e4]
        unfold X15_exact_B132
        rw [G_t g4.c195, done_m g4, BN_ok, h5e]
      · refine ⟨i.g.fz F, i.t.fz F (fun a k q c => c.elim (sT_ q) (fun c => by omega)), i.q.fz F (fun a k q c => c.elim (sG_ q) (fun c => by omega)), i.b.fz F (fun a k q c => c.elim (sB_ q) (fun c => by omega)) i.bb, i.f.fz F (fun a k q c => c.elim (sF_ q) (fun c => by omega)), i.m.fz F (fun a k q c => c.elim (sM_ q) (fun c => by omega)), i.k.fz F (fun a k q c => c.elim (sK_ q) (fun c => by omega)), i.u.fz F (fun a k q c => c.elim (sU_ q) (fun c => by omega)), i.r.fz F (fun a k q c => c.elim (sR_ q) (fun c => by omega)), i.o.fz F (fun a k q c => c.elim (sO_ q) (fun c => by omega)), ⟨I1.fz Fx (by decide) (by unfold AlA ExF; omega) (fun k => by unfold AlA ExF; omega), ?_, fun j hj => ?_⟩, i.z.fz F (fun a k q c => c.elim (sZ_ q) (fun c => by omega)), (fun e => nomatch e), i.fm.fz F, ?_⟩
        · rw [h5e, xI_ne (by omega), xI_ne (by omega)]; exact E4.1
        · rw [h5e, xI_ne (by omega), xI_ne (by omega)]; exact E4.2 j hj
        · rw [h5e]
          refine Sts_fin n4_0 ?_
          rw [F4.I (by unfold ExF; omega), xI_ne (by omega), F2.I (by unfold AlA; omega), xI_ne (by omega), hce, xI_self]
    · have FF : Fz (SCR m) h (pI (pI h 1 15 (nI 5)) 195 0 (nI 0)) := (Fz.i scA).tr (Fz.i sc0)
      obtain ⟨k2, e2, F2, q2⟩ := isTooMany_m (i.max rfl FF)
      rw [too] at e2
      have g2 := (gi (nI 5)).i (a := 195) (k := 0) (v := nI 0) |>.fz F2
      have Fs2 : Fz (SCR m) h k2 := FF.tr (F2.mo (fun a k q => AlA_scr q))
      refine ⟨-1, pI h 1 15 (nI 5), pI (pI k2 195 1 (nI 5)) 195 2 (-1), ?_, (gi _).c195, ?_, ⟨_, _, _, _, _, _, _, _, _, _, _, i.fin Fs2 n4_5 (by rw [F2.I (by unfold AlA; omega), xI_ne (by omega), xI_self])⟩, by show xn k2 ≤ _; rw [Fs2.n]; omega, by show xs k2 ≤ _; rw [Fs2.s]; omega⟩
      · unfold X11_exact_f
        rw [G_t i.g.c1, i.q.hb, if_neg (by decide), G_t i.g.c1, i.g.r1_8, G_t i.g.c145, i.g.r145_0, G_t i.g.c146, i.g.r1_1, isTooMuch_c C, BN_ok, too, if_neg (by decide), G_t i.g.c1, refuse_c i.g, BN_ok]
      · unfold X15_exact_f
        rw [G_t (gi _).c195, LT_e, G_t (gi _).i.c195, xR_pI, xR_pI, if_neg hr, G_t (gi _).i.c195, e2, BN_ok, if_neg (by decide), G_t g2.c195, refused_m g2, BN_ok]
