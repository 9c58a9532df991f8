def TmF : Nat → Nat → Prop := fun a k => a = 218 ∨ a = 219 ∨ (203 ≤ a ∧ a ≤ 205) ∨ (207 ≤ a ∧ a ≤ 214) ∨ a = 216 ∨ a = 220 ∨ a = 195 ∧ k = 42
theorem TmF_n {a k : Nat} (c : TmF a k) : a < 227 ∧ a ≠ 198 ∧ (a = 195 → k = 36 ∨ k = 42 ∨ k = 43 ∨ k ≤ 2) := by unfold TmF at c; omega
theorem TmF_a {a k : Nat} (q : a = 195 ∧ k = 36 ∨ a = 217) : ¬ TmF a k := by unfold TmF; omega
def TmX (h : AH) (p : PR) (fs : LLn) (fd : List Nat) : Prop := (∀ i, i < fs.length → IsSl h (3 + i) p (flOf (fs.getD i []))) ∧ xI h 195 42 = nI fd.length ∧ mL h 220 0 fd
theorem alS_allF {p : PR} {l : List Nat} : ∀ fs : LLn, alS p fs l = allF (fun i => spo p (flOf (fs.getD i [])) (flOf l)) 0 fs.length := by
  intro fs
  rw [allF_0]
  unfold alS
  rw [Bool.eq_iff_iff, List.all_eq_true, List.all_eq_true]
  constructor
  · intro h i hi
    exact h _ (getD_memL (List.mem_range.mp hi))
  · intro h f hf
    obtain ⟨i, hi, rfl⟩ := List.getElem_of_mem hf
    have := h i (List.mem_range.mpr hi)
    rw [List.getD_eq_getElem?_getD, List.getElem?_eq_getElem hi] at this
    exact this
theorem tm_sp {b s runs n : Nat} {p : PR} {r : NN_} {l : List Nat} {fs : LLn} (K1 : Nat → Int32 → Int32 → Int32 → Int32 → Int32 → AH → Option (Int32 × AH)) (K2 : Nat → Int32 → Int32 → Int32 → Int32 → Int32 → Int32 → AH → Option (Int32 × AH)) (l101 : fs.length ≤ 101) : ∀ k j fu c (h : AH), j + k = fs.length → k < fu → MaX h b p r → (∀ i, i < fs.length → IsSl h (3 + i) p (flOf (fs.getD i []))) → IsH h 206 (flOf l) → ∃ h', X15_trial_B128 K1 K2 fu 195 (nI runs) (nI fs.length) (nI n) (nI 0) (nI s) (bI c) (nI j) h = X15_trial_B155 K1 K2 195 (nI runs) (nI fs.length) (nI n) (nI 0) (nI s) (bI (c && allF (fun i => spo p (flOf (fs.getD i [])) (flOf l)) j fs.length)) h' ∧ Fr (fun x => x = 216) h h' := by
  intro k
  induction k with
  | zero =>
    intro j fu c h hj hf C S H
    obtain ⟨fu, rfl⟩ : ∃ q, fu = q + 1 := ⟨fu - 1, by omega⟩
    refine ⟨h, ?_, Fr.rf⟩
    rw [X15_trial_B128, if_pos (by rw [nI_lI (by omega) (by omega)]; omega), show j = fs.length by omega, allF_end (Nat.le_refl _), Bool.and_true]
  | succ k ih =>
    intro j fu c h hj hf C S H
    obtain ⟨fu, rfl⟩ : ∃ q, fu = q + 1 := ⟨fu - 1, by omega⟩
    rw [X15_trial_B128, if_neg (by rw [nI_lI (by omega) (by omega)]; omega)]
    cases c
    · refine ⟨h, ?_, Fr.rf⟩
      rw [if_pos (by decide)]; rfl
    · obtain ⟨h2, e2, F2⟩ := isSpoilt_m ⟨C.c, S j (by omega), H, (by omega : 3 + j < 104)⟩
      have C2 := C.fz F2.q.f (fun a k c => by omega)
      obtain ⟨h3, e3, F3⟩ := ih (j + 1) fu (spo p (flOf (fs.getD j [])) (flOf l)) h2 (by omega) (by omega) C2 (fun i hi => (S i hi).fr F2 (fun a c1 c2 => by omega)) (H.fr F2 (fun k c1 c2 => by omega))
      refine ⟨h3, ?_, F2.tr F3⟩
      rw [if_neg (by decide), G_t C.c.s.c195, nI_add, e2, BN_ok, nI_add, LT_e, e3, allF_step (k := j) (by omega), Bool.true_and]
theorem tm_in {b s runs : Nat} {p : PR} {r : NN_} {a : List Nat} (K : Nat → Int32 → Int32 → Int32 → Int32 → Int32 → AH → Option (Int32 × AH)) (hs1 : 1 ≤ s) (hs : s ≤ 3) (N120 : a.length ≤ 120) (ao : ∀ y, y ∈ a → OKf y) (hr : runs ≤ 100) : ∀ g c fu fl fs n (h : AH), (seg a r s c (128 ^ s - c)).length ≤ g → g < fu → n ≤ runs → fs.length ≤ n + 1 → MaX h b p r → AlM h a → NxM h a r s c fl → TmX h p fs [] → ∃ h', X15_trial_B98 K fu 195 (nI runs) (nI fs.length) (nI n) (nI 0) (nI s) (bI fl) h = X15_trial_B275 K 195 (nI runs) (nI (trL p runs fs n (seg a r s c (128 ^ s - c))).1.length) (nI (trL p runs fs n (seg a r s c (128 ^ s - c))).2.1) (nI (trL p runs fs n (seg a r s c (128 ^ s - c))).2.2.1) (nI s) h' ∧ Fz TmF h h' ∧ TmX h' p (trL p runs fs n (seg a r s c (128 ^ s - c))).1 (trL p runs fs n (seg a r s c (128 ^ s - c))).2.2.2 := by
  have ao4 : ∀ d, d ∈ a → d < 400 := fun d hd => (ao d hd).1
  intro g
  induction g with
  | zero =>
    intro c fu fl fs n h hl hf hn hfs C q nx T
    obtain ⟨fu, rfl⟩ : ∃ q, fu = q + 1 := ⟨fu - 1, by omega⟩
    rcases nx with ⟨rfl, nil⟩ | ⟨rfl, w, _, cons, _⟩
    · refine ⟨h, ?_, Fz.rf, by rw [nil]; exact T⟩
      rw [X15_trial_B98, if_pos (by decide), nil]; rfl
    · rw [cons] at hl
      have : (seg a r s (w + 1) (128 ^ s - (w + 1))).length + 1 ≤ 0 := hl
      omega
  | succ g ih =>
    intro c fu fl fs n h hl hf hn hfs C q nx T
    obtain ⟨fu, rfl⟩ : ∃ q, fu = q + 1 := ⟨fu - 1, by omega⟩
    rcases nx with ⟨rfl, nil⟩ | ⟨rfl, w, _, cons, it⟩
    · refine ⟨h, ?_, Fz.rf, by rw [nil]; exact T⟩
      rw [X15_trial_B98, if_pos (by decide), nil]; rfl
    · rw [cons] at hl ⊢
      have hl : (seg a r s (w + 1) (128 ^ s - (w + 1))).length + 1 ≤ g + 1 := hl
      obtain ⟨fu, rfl⟩ : ∃ q, fu = q + 1 := ⟨fu - 1, by omega⟩
      have sg := C.c.s
      have ll := sL_len (a := a) (v := w) hs
      obtain ⟨h2, e2, F2, H2⟩ := spoil_set (k := 1) (f := flOf []) C hs N120 ao it
      have FF2 : Fz TmF h h2 := F2.q.f.mo (fun a k q => by unfold TmF; omega)
      have C2 := C.fz FF2 (fun a k c => TmF_n c)
      obtain ⟨h3, e3, F3⟩ := tm_sp (s := s) (runs := runs) (n := n) (l := sL a s w) (fs := fs) K (X15_trial_B98 K (fu + 1)) (by omega) fs.length 0 FU true h2 (by omega) (FU_gt (by omega)) C2 (fun i hi => (T.1 i hi).fr F2 (fun a c1 c2 => by omega)) H2
      rw [Bool.true_and, ← alS_allF] at e3
      have FF3 : Fz TmF h h3 := FF2.tr (F3.q.f.mo (fun a k q => by unfold TmF; omega))
      have C3 := C.fz FF3 (fun a k c => TmF_n c)
      have q3 := q.fz FF3 (fun a k c => TmF_a c)
      have it3 : ItM h3 a r s w := (it.fz F2.q.f (fun x k c => by omega)).fz F3.q.f (fun x k c => by omega)
      have T3 : TmX h3 p fs [] := ⟨fun i hi => ((T.1 i hi).fr F2 (fun a c1 c2 => by omega)).fr F3 (fun a c1 c2 => by omega), by rw [F3.I _ (by decide), F2.I _ (by decide)]; exact T.2.1, fun i hi => absurd hi (Nat.not_lt_zero _)⟩
      have hdr : X15_trial_B98 K (fu + 1 + 1) 195 (nI runs) (nI fs.length) (nI n) (nI 0) (nI s) (bI true) h = X15_trial_B155 K (X15_trial_B98 K (fu + 1)) 195 (nI runs) (nI fs.length) (nI n) (nI 0) (nI s) (bI (alS p fs (sL a s w))) h3 := by
        rw [X15_trial_B98, if_neg (by decide), if_pos nI_0, G_t sg.c195, sg.r195_27, G_t sg.c206, sg.r195_39, e2, BN_ok]
        exact e3
      rw [hdr, trL]
      -- on to the next set
      have cont : ∀ fs' n' h', n' ≤ runs → fs'.length ≤ n' + 1 → MaX h' b p r → AlM h' a → ItM h' a r s w → TmX h' p fs' [] → Fz TmF h h' → ∃ h9, X15_trial_B251 K (X15_trial_B98 K (fu + 1)) 195 (nI runs) (nI fs'.length) (nI n') (nI 0) (nI s) h' = X15_trial_B275 K 195 (nI runs) (nI (trL p runs fs' n' (seg a r s (w + 1) (128 ^ s - (w + 1)))).1.length) (nI (trL p runs fs' n' (seg a r s (w + 1) (128 ^ s - (w + 1)))).2.1) (nI (trL p runs fs' n' (seg a r s (w + 1) (128 ^ s - (w + 1)))).2.2.1) (nI s) h9 ∧ Fz TmF h h9 ∧ TmX h9 p (trL p runs fs' n' (seg a r s (w + 1) (128 ^ s - (w + 1)))).1 (trL p runs fs' n' (seg a r s (w + 1) (128 ^ s - (w + 1)))).2.2.2 := fun fs' n' h' hn' hfs' C' q' it' T' F' => by
        obtain ⟨c9, h8, e8, F8, nx8⟩ := goes2_m hs1 hs N120 ao4 C' q' it'
        have FF8 : Fz TmF h' h8 := F8.mo (fun a k q => by unfold MsA at q; unfold TmF; omega)
        have T8 : TmX h8 p fs' [] := ⟨fun i hi => (T'.1 i hi).fz F8 (fun a j c1 c2 => by unfold MsA; omega), by rw [F8.I (by unfold MsA; omega)]; exact T'.2.1, fun i hi => absurd hi (Nat.not_lt_zero _)⟩
        obtain ⟨h9, e9, F9, T9⟩ := ih (w + 1) (fu + 1) c9 fs' n' h8 (by omega) (by omega) hn' hfs' (C'.fz FF8 (fun a k c => TmF_n c)) (q'.fz FF8 (fun a k c => TmF_a c)) nx8 T8
        refine ⟨h9, ?_, (F'.tr FF8).tr F9, T9⟩
        unfold X15_trial_B251 X15_trial_B269 X15_trial_B270
        rw [if_pos nI_0, G_t C'.c.s.c195, e8, BN_ok]
        cases c9
        · rw [if_pos (by decide)]; exact e9
        · rw [if_neg (by decide)]; exact e9
      -- the end
      have stop : ∀ sl nn how h', 1 ≤ how → how ≤ 2 → X15_trial_B251 K (X15_trial_B98 K (fu + 1)) 195 (nI runs) sl nn (nI how) (nI s) h' = X15_trial_B275 K 195 (nI runs) sl nn (nI how) (nI s) h' := fun sl nn how h' h1 h2 => by
        unfold X15_trial_B251 X15_trial_B269 X15_trial_B270
        rw [if_neg (nI_ne0 (by omega) (by omega)), X15_trial_B98, if_pos nI_0]
      unfold X15_trial_B155
      cases ha : alS p fs (sL a s w)
      · rw [if_pos (by decide), if_neg (by decide)]
        exact cont fs n h3 hn hfs C3 q3 it3 T3 FF3
      · rw [if_neg (by decide), if_pos rfl]
        by_cases nr : n = runs
        · rw [if_pos (by rw [nr]), if_pos nr]
          exact ⟨h3, stop _ _ 2 _ (by decide) (by decide), FF3, T3⟩
        · obtain ⟨h4, e4, F4, o4, s4⟩ := run_set C3 hs N120 ao it3 (by omega : 3 + fs.length < 104)
          have ob := outB_le (p := p) (f := flOf (sL a s w))
          have FF4 : Fz TmF h h4 := FF3.tr (F4.q.f.mo (fun a k q => by unfold TmF; omega))
          have C4 := C.fz FF4 (fun a k c => TmF_n c)
          have q4 := q.fz FF4 (fun a k c => TmF_a c)
          have it4 : ItM h4 a r s w := it3.fz F4.q.f (fun x k c => by omega)
          have sl4 : ∀ i, i < fs.length → IsSl h4 (3 + i) p (flOf (fs.getD i [])) := fun i hi => o4 (3 + i) p _ (by omega) C.c.q.w.m C.c.q.w.s C.c.x (T3.1 i hi)
          have m4 : xI h4 195 42 = nI 0 := by rw [F4.I _ (by decide)]; exact T3.2.1
          have hdr2 : (LT (nI n + nI 1) fun v1 => G (xc h3 195 = 15) <| BN (X15_runs_f 195 (nI 3 + nI fs.length) (xR h3 195 39) (nI 0) (nI s) h3) fun v4 h3 => if v4 = nI 2 then (G (xc h3 195 = 15) <| LT (pI h3 195 42 (nI s)) fun h6 => X15_trial_B211 K (X15_trial_B98 K (fu + 1)) FU 195 (nI runs) (nI fs.length) v1 (nI 1) (nI s) v4 (nI 0) h6) else X15_trial_B238 K (X15_trial_B98 K (fu + 1)) 195 (nI runs) (nI fs.length) v1 (nI 0) (nI s) v4 h3) = if nI (outB p (flOf (sL a s w))) = nI 2 then (G (xc h4 195 = 15) <| LT (pI h4 195 42 (nI s)) fun h6 => X15_trial_B211 K (X15_trial_B98 K (fu + 1)) FU 195 (nI runs) (nI fs.length) (nI (n + 1)) (nI 1) (nI s) (nI (outB p (flOf (sL a s w)))) (nI 0) h6) else X15_trial_B238 K (X15_trial_B98 K (fu + 1)) 195 (nI runs) (nI fs.length) (nI (n + 1)) (nI 0) (nI s) (nI (outB p (flOf (sL a s w)))) h4 := by
            rw [nI_add, LT_e, G_t C3.c.s.c195, nI_add, C3.c.s.r195_39, e4, BN_ok]
          rw [if_neg (by rw [nI_eI (by omega) (by omega)]; exact nr), if_neg nr, hdr2]
          by_cases o2 : outB p (flOf (sL a s w)) = 2
          · rw [if_pos (by rw [o2]), if_pos o2, G_t C4.c.s.c195, LT_e]
            obtain ⟨h5, ⟨F5, v5⟩, e5⟩ := loopE (F := fun g k h' => X15_trial_B211 K (X15_trial_B98 K (fu + 1)) g 195 (nI runs) (nI fs.length) (nI (n + 1)) (nI 1) (nI s) (nI (outB p (flOf (sL a s w)))) (nI k) h') (E := fun h' => X15_trial_B238 K (X15_trial_B98 K (fu + 1)) 195 (nI runs) (nI fs.length) (nI (n + 1)) (nI 1) (nI s) (nI (outB p (flOf (sL a s w)))) h') s (fun k h' => Fr (fun x => x = 220) (pI h4 195 42 (nI s)) h' ∧ ∀ i, i < k → xI h' 220 i = nI ((sL a s w).getD i 0)) (Nat.zero_le _) (by omega) (h := pI h4 195 42 (nI s)) ⟨Fr.rf, fun i hi => absurd hi (Nat.not_lt_zero _)⟩
              (by
                rintro m k h' hk ⟨F, v⟩
                have s' := C4.c.s.i.fr F
                have v1 : xI h' 219 (nI k).toNatClampNeg = nI ((sL a s w).getD k 0) := by
                  have := it4.e k (by omega)
                  rw [Nat.zero_add] at this
                  rw [nI_cl (by omega), F.I _ (by decide), xI_ne (by omega)]; exact this
                refine ⟨pI h' 220 k (nI ((sL a s w).getD k 0)), ⟨F.tr (Fr.i rfl), fun i hi => ?_⟩, ?_⟩
                · by_cases e : i = k
                  · rw [e, xI_self]
                  · rw [xI_ne (by omega)]; exact v i (by omega)
                · show X15_trial_B211 K (X15_trial_B98 K (fu + 1)) (m + 1) 195 (nI runs) (nI fs.length) (nI (n + 1)) (nI 1) (nI s) (nI (outB p (flOf (sL a s w)))) (nI k) h' = _
                  rw [X15_trial_B211]
                  rw [if_neg (by rw [nI_lI (by omega) (by omega)]; omega), G_t s'.c195, s'.r195_39, G_t s'.c219, s'.z219, G_gx (by omega) (by omega), s'.r195_44, G_t s'.c220, s'.z220, G_gx (by omega) (by omega), v1, LT_e, nI_cl (by omega), nI_add, LT_e])
              (by
                rintro m h' ⟨F, v⟩
                show X15_trial_B211 K (X15_trial_B98 K (fu + 1)) (m + 1) 195 (nI runs) (nI fs.length) (nI (n + 1)) (nI 1) (nI s) (nI (outB p (flOf (sL a s w)))) (nI s) h' = _
                rw [X15_trial_B211, if_pos (by rw [nI_lI (by omega) (by omega)]; omega)])
            have FF5 : Fz TmF h4 h5 := (Fz.i (by unfold TmF; omega)).tr (F5.q.f.mo (fun a k q => by unfold TmF; omega))
            refine ⟨h5, ?_, FF4.tr FF5, fun i hi => ((sl4 i hi).fr (Fr.i (A := fun x => x = 195) rfl) (fun a c1 c2 => by omega)).fr F5 (fun a c1 c2 => by omega), by rw [F5.I _ (by decide), xI_self]; show nI s = nI (sL a s w).length; rw [ll], fun i hi => by
              have hi : i < (sL a s w).length := hi
              rw [Nat.zero_add]; exact v5 i (by omega)⟩
            have e5 : X15_trial_B211 K (X15_trial_B98 K (fu + 1)) FU 195 (nI runs) (nI fs.length) (nI (n + 1)) (nI 1) (nI s) (nI (outB p (flOf (sL a s w)))) (nI 0) (pI h4 195 42 (nI s)) = X15_trial_B238 K (X15_trial_B98 K (fu + 1)) 195 (nI runs) (nI fs.length) (nI (n + 1)) (nI 1) (nI s) (nI (outB p (flOf (sL a s w)))) h5 := e5
            rw [e5]
            unfold X15_trial_B238 X15_trial_B249
            rw [o2, if_neg (by decide), nI_add, LT_e, stop _ _ 1 _ (by decide) (by decide)]; rfl
          · rw [if_neg (by rw [nI_eI (by omega) (by omega)]; exact o2), if_neg o2]
            unfold X15_trial_B238 X15_trial_B249
            by_cases o0 : outB p (flOf (sL a s w)) = 0
            · rw [if_pos (by rw [o0]; exact nI_0), if_pos o0, nI_add, LT_e]
              have ll2 : (fs ++ [sL a s w]).length = fs.length + 1 := by rw [List.length_append]; rfl
              have := cont (fs ++ [sL a s w]) (n + 1) h4 (by omega) (by omega) C4 q4 it4 ⟨fun i hi => by
                rw [ll2] at hi
                rw [getD_app2 (by omega)]
                by_cases ei : i < fs.length
                · rw [if_pos ei]; exact sl4 i ei
                · rw [if_neg ei, show i = fs.length by omega]; exact s4, m4, fun i hi => absurd hi (Nat.not_lt_zero _)⟩ FF4
              rw [ll2] at this
              exact this
            · rw [if_neg (nI_ne0 (by omega) (by omega)), if_neg o0, nI_add, LT_e]
              exact cont fs (n + 1) h4 (by omega) (by omega) C4 q4 it4 ⟨sl4, m4, fun i hi => absurd hi (Nat.not_lt_zero _)⟩ FF4
theorem tm_out {b runs : Nat} {p : PR} {r : NN_} {a : List Nat} (N120 : a.length ≤ 120) (ao : ∀ y, y ∈ a → OKf y) (hr : runs ≤ 100) : ∀ j s fu fs n (h : AH), 1 ≤ s → s + j = r 0 + r 1 + r 2 + r 3 + 1 → j < fu → n ≤ runs → fs.length ≤ n + 1 → MaX h b p r → AlM h a → TmX h p fs [] → ∃ h', X15_trial_B76 fu 195 (nI runs) (nI fs.length) (nI n) (nI 0) (nI s) h = X15_trial_B281 195 (nI (trL p runs fs n (ups a r s j)).1.length) (nI (trL p runs fs n (ups a r s j)).2.1) (nI (trL p runs fs n (ups a r s j)).2.2.1) h' ∧ Fz TmF h h' ∧ TmX h' p (trL p runs fs n (ups a r s j)).1 (trL p runs fs n (ups a r s j)).2.2.2 := by
  have ao4 : ∀ d, d ∈ a → d < 400 := fun d hd => (ao d hd).1
  intro j
  induction j with
  | zero =>
    intro s fu fs n h hs1 hs hf hn hfs C q T
    obtain ⟨fu, rfl⟩ : ∃ q, fu = q + 1 := ⟨fu - 1, by omega⟩
    have x := C.x
    refine ⟨h, ?_, Fz.rf, T⟩
    rw [X15_trial_B76, G_t C.c.s.c195, inPu_m C, BN_ok, if_pos (by rw [nI_tI (by omega) (by omega)]; omega)]; rfl
  | succ j ih =>
    intro s fu fs n h hs1 hs hf hn hfs C q T
    obtain ⟨fu, rfl⟩ : ∃ q, fu = q + 1 := ⟨fu - 1, by omega⟩
    have x := C.x
    have s3 : s ≤ 3 := by omega
    have p3 := p128_le s3
    obtain ⟨c1, h1, e1, F1, nx1⟩ := begins_m hs1 s3 N120 ao4 C q
    have FF1 : Fz TmF h h1 := F1.mo (fun a k q => by unfold MsA at q; unfold TmF; omega)
    have C1 := C.fz FF1 (fun a k c => TmF_n c)
    have q1 := q.fz FF1 (fun a k c => TmF_a c)
    have T1 : TmX h1 p fs [] := ⟨fun i hi => (T.1 i hi).fz F1 (fun a j c1 c2 => by unfold MsA; omega), by rw [F1.I (by unfold MsA; omega)]; exact T.2.1, fun i hi => absurd hi (Nat.not_lt_zero _)⟩
    have sl := seg_len (a := a) (r := r) (s := s) (lo := 0) (n := 128 ^ s - 0)
    obtain ⟨h2, e2, F2, T2⟩ := tm_in (runs := runs) (X15_trial_B76 fu) hs1 s3 N120 ao hr (128 ^ s) 0 FU c1 fs n h1 (by omega) (FU_gt (by omega)) hn hfs C1 q1 nx1 T1
    rw [Nat.sub_zero] at e2 T2
    have tb := trL_b (p := p) (runs := runs) (seg a r s 0 (128 ^ s)) fs n hn
    have fd := trL_fd (p := p) (runs := runs) (seg a r s 0 (128 ^ s)) fs n
    have hdr : X15_trial_B76 (fu + 1) 195 (nI runs) (nI fs.length) (nI n) (nI 0) (nI s) h = X15_trial_B98 (X15_trial_B76 fu) FU 195 (nI runs) (nI fs.length) (nI n) (nI 0) (nI s) (bI c1) h1 := by
      rw [X15_trial_B76, G_t C.c.s.c195, inPu_m C, BN_ok, if_neg (by rw [nI_tI (by omega) (by omega)]; omega), if_pos nI_0, G_t C.c.s.c195, e1, BN_ok]
    rw [hdr, e2, ups_s, trL_app]
    generalize trL p runs fs n (seg a r s 0 (128 ^ s)) = R at T2 tb fd ⊢
    have C2 := C1.fz F2 (fun a k c => TmF_n c)
    unfold X15_trial_B275
    rw [LT_e, nI_add]
    by_cases h0 : R.2.2.1 = 0
    · rw [if_pos h0]
      rw [fd h0] at T2
      obtain ⟨h3, e3, F3, T3⟩ := ih (s + 1) fu R.1 R.2.1 h2 (by omega) (by omega) (by omega) tb.2.1 (by omega) C2 (q1.fz F2 (fun a k c => TmF_a c)) T2
      refine ⟨h3, ?_, (FF1.tr F2).tr F3, T3⟩
      rw [h0]; exact e3
    · rw [if_neg h0]
      obtain ⟨fu, rfl⟩ : ∃ q, fu = q + 1 := ⟨fu - 1, by omega⟩
      refine ⟨h2, ?_, FF1.tr F2, T2⟩
      rw [X15_trial_B76, G_t C2.c.s.c195, inPu_m C2, BN_ok]
      by_cases t : r 0 + r 1 + r 2 + r 3 < s + 1
      · rw [if_pos (by rw [nI_tI (by omega) (by omega)]; exact t)]
      · rw [if_neg (by rw [nI_tI (by omega) (by omega)]; exact t), if_neg (nI_ne0 (by omega) (by omega))]
