def IsW (h : AH) (wk b : Nat) (p : PR) : Prop := (wk = 62 ∨ wk = 119) ∧ (xc h wk = 10) ∧ (xR h wk 0 = b) ∧ (xI h wk 1 = nI (pl p)) ∧ (xI h wk 2 = pS p) ∧ (xI h wk 3 = pK p) ∧ (xI h wk 4 = pA p) ∧ (xI h wk 5 = pb p)
theorem IsW.w {h : AH} {wk b : Nat} {p : PR} (q_ : IsW h wk b p) : wk = 62 ∨ wk = 119 := q_.1
theorem IsW.c {h : AH} {wk b : Nat} {p : PR} (q_ : IsW h wk b p) : xc h wk = 10 := q_.2.1
theorem IsW.bk {h : AH} {wk b : Nat} {p : PR} (q_ : IsW h wk b p) : xR h wk 0 = b := q_.2.2.1
theorem IsW.l {h : AH} {wk b : Nat} {p : PR} (q_ : IsW h wk b p) : xI h wk 1 = nI (pl p) := q_.2.2.2.1
theorem IsW.S {h : AH} {wk b : Nat} {p : PR} (q_ : IsW h wk b p) : xI h wk 2 = pS p := q_.2.2.2.2.1
theorem IsW.K {h : AH} {wk b : Nat} {p : PR} (q_ : IsW h wk b p) : xI h wk 3 = pK p := q_.2.2.2.2.2.1
theorem IsW.A {h : AH} {wk b : Nat} {p : PR} (q_ : IsW h wk b p) : xI h wk 4 = pA p := q_.2.2.2.2.2.2.1
theorem IsW.B {h : AH} {wk b : Nat} {p : PR} (q_ : IsW h wk b p) : xI h wk 5 = pb p := q_.2.2.2.2.2.2.2
theorem IsW.fr {A : Nat → Prop} {h h' : AH} {wk b : Nat} {p : PR} (F : Fr A h h') (n : ¬ A wk) (q : IsW h wk b p) : IsW h' wk b p := by
  unfold IsW at *; simp only [F.c, F.r, F.I _ n]; exact q
def CoX (h : AH) (wk b L : Nat) (p : PR) : Prop := (SG h) ∧ (LaS h L) ∧ (IsW h wk b p) ∧ (IsCB h b p.1) ∧ (xR h 174 7 = wk) ∧ (xR h 174 8 = b) ∧ (xR h 174 9 = L) ∧ (1 ≤ pl p) ∧ (pl p ≤ 6)
theorem CoX.s {h : AH} {wk b L : Nat} {p : PR} (q_ : CoX h wk b L p) : SG h := q_.1
theorem CoX.l {h : AH} {wk b L : Nat} {p : PR} (q_ : CoX h wk b L p) : LaS h L := q_.2.1
theorem CoX.w {h : AH} {wk b L : Nat} {p : PR} (q_ : CoX h wk b L p) : IsW h wk b p := q_.2.2.1
theorem CoX.q {h : AH} {wk b L : Nat} {p : PR} (q_ : CoX h wk b L p) : IsCB h b p.1 := q_.2.2.2.1
theorem CoX.r7 {h : AH} {wk b L : Nat} {p : PR} (q_ : CoX h wk b L p) : xR h 174 7 = wk := q_.2.2.2.2.1
theorem CoX.r8 {h : AH} {wk b L : Nat} {p : PR} (q_ : CoX h wk b L p) : xR h 174 8 = b := q_.2.2.2.2.2.1
theorem CoX.r9 {h : AH} {wk b L : Nat} {p : PR} (q_ : CoX h wk b L p) : xR h 174 9 = L := q_.2.2.2.2.2.2.1
theorem CoX.n {h : AH} {wk b L : Nat} {p : PR} (q_ : CoX h wk b L p) : 1 ≤ pl p := q_.2.2.2.2.2.2.2.1
theorem CoX.x {h : AH} {wk b L : Nat} {p : PR} (q_ : CoX h wk b L p) : pl p ≤ 6 := q_.2.2.2.2.2.2.2.2
theorem CoX.fr {A : Nat → Prop} {h h' : AH} {wk b L : Nat} {p : PR} (F : Fr A h h') (n : ∀ a, A a → 120 ≤ a) (C : CoX h wk b L p) : CoX h' wk b L p := ⟨C.s.fr F, C.l.fr F, C.w.fr F (fun q => by have := n _ q; have := C.w.w; omega), C.q.fr F (fun a q => by have := n _ q; omega), by rw [F.r]; exact C.r7, by rw [F.r]; exact C.r8, by rw [F.r]; exact C.r9, C.n, C.x⟩
/-- the falls of a lane -/
def laf (h : AH) (L j : Nat) : FL := (fun s t => decide (s < 6 ∧ t < 7) && tl (xL h (L + 1) (s * 7 + t)) j, fun s t => decide (s < 6 ∧ t < 7) && tl (xL h (L + 2) (s * 7 + t)) j, fun m t => decide (m < 4 ∧ t < 7) && tl (xL h (L + 3) (m * 7 + t)) j)
theorem laf_D {h : AH} {L j m t : Nat} (hm : m < 4) (ht : t < 7) : fD (laf h L j) m t = tl (xL h (L + 3) (m * 7 + t)) j := by
  show (decide (m < 4 ∧ t < 7) && _) = _; rw [decide_eq_true ⟨hm, ht⟩]; rfl
theorem laf_O {h : AH} {L j m t : Nat} (hm : m < 6) (ht : t < 7) : fO (laf h L j) m t = tl (xL h (L + 1) (m * 7 + t)) j := by
  show (decide (m < 6 ∧ t < 7) && _) = _; rw [decide_eq_true ⟨hm, ht⟩]; rfl
theorem laf_A {h : AH} {L j m t : Nat} (hm : m < 6) (ht : t < 7) : fA (laf h L j) m t = tl (xL h (L + 2) (m * 7 + t)) j := by
  show (decide (m < 6 ∧ t < 7) && _) = _; rw [decide_eq_true ⟨hm, ht⟩]; rfl
theorem laf_fr {A : Nat → Prop} {h h' : AH} {L : Nat} (F : Fr A h h') (n1 : ¬ A (L + 1)) (n2 : ¬ A (L + 2)) (n3 : ¬ A (L + 3)) (j : Nat) : laf h' L j = laf h L j := by
  unfold laf; simp only [F.L _ n1, F.L _ n2, F.L _ n3]
def TVb (h : AH) (j t m r : Nat) : Bool := tl (xL h 175 ((t * 4 + m) * 10 + r)) j
theorem cell_ok {h : AH} {t m : Nat} : X11_cell_f (nI t) (nI m) h = some (nI (t * 4 + m), h) := by
  unfold X11_cell_f; simp only [nI_add, pk_mul, G_gx, nI_cl, nI_lI, nI_tI, nI_eI]
theorem addNext_ok {h : AH} {wk b L m t : Nat} {p : PR} {l3 : Int64} (C : CoX h wk b L p) (hm : m < p.1 0 0) (ht : 0 < t) (ht6 : t ≤ 6) : ∃ h', X2_addNext_f 174 (nI m) (nI t) l3 h = some ((), h') ∧ Fr (fun a => a = 175) h h' ∧ (∀ i, ¬ ((t * 4 + m) * 10 ≤ i ∧ i < (t * 4 + m) * 10 + 10) → xL h' 175 i = xL h 175 i) ∧ ∀ r, r < 10 → ∀ j, j < 64 → tl (xL h' 175 ((t * 4 + m) * 10 + r)) j = (tl (xL h 175 ((t * 4 + m) * 10 + r)) j || (nxB p (laf h L j) (TVb h j) t m r && tl l3 j)) := by
  have wm := C.q.w.m
  have wr := C.q.w.r
  have wu := C.q.w.u
  have hL := C.l.w
  unfold X2_addNext_f
  simp only [cell_ok, LT_e, G_T, BN_ok, if_true, if_false, nI_add, pk_mul, G_gx, nI_cl, nI_lI, nI_tI, nI_eI]
  obtain ⟨h', ⟨F, out, val⟩, e⟩ := loopE (F := fun n k h' => X2_addNext_B13 n 174 (nI m) (nI t) l3 (nI ((t * 4 + m) * 10)) (nI k) h') (E := fun h' => some ((), h')) (p.1 3 0) (fun k h' => Fr (fun a => a = 175) h h' ∧ (∀ i, ¬ ((t * 4 + m) * 10 ≤ i ∧ i < (t * 4 + m) * 10 + 10) → xL h' 175 i = xL h 175 i) ∧ ∀ r, r < 10 → ∀ j, j < 64 → tl (xL h' 175 ((t * 4 + m) * 10 + r)) j = (tl (xL h 175 ((t * 4 + m) * 10 + r)) j || ((!fD (laf h L j) m (t - 1) && (List.range k).any fun i => p.1 13 i == 0 && isF p.1 i m && p.1 10 i == r && cH p.1 i false (TVb h j (t - 1) m)) && tl l3 j))) (Nat.zero_le _) (by omega) ⟨Fr.rf, fun _ _ => rfl, fun r _ j _ => by simp⟩
    (by
      rintro n k h' hk ⟨F, out, val⟩
      have C' := C.fr F (by intro a q; omega)
      have q := C'.q
      have w := q.w.ru k hk
      have cl := q.ru k hk
      have wn := q.w.nw k hk
      have w1 := w.row
      have w2 := w.pl
      have hk' : ¬ p.1 3 0 ≤ k := by omega
      have e7 : nI t - nI 1 = nI (t - 1) := pk_sub (by omega)
      simp (disch := omega) only [X2_addNext_B13, X2_addNext_B83, LT_e, G_T, BN_ok, if_true, if_false, nI_add, pk_mul, G_gx, nI_cl, nI_lI, nI_tI, nI_eI, C'.s.c174, C'.s.r174_0, C'.s.c175, C'.s.z175, C'.r8, q.s.c, q.s.r10, q.s.c4, q.s.z4, q.u, hk', q.s.ru, cl.s.c, cl.now, nI_z, isFor_ok cl (by omega : p.1 11 k ≤ 4) (by omega : m < 4), cl.row, e7]
      by_cases e1 : p.1 13 k = 0
      · by_cases e2 : isF p.1 k m = true
        · obtain ⟨v, hv, vb⟩ := held_ok C'.s C'.l C'.r9 cl w wr (m := m) (t := t - 1) (bare := nI 0) (by omega) (by omega)
          refine ⟨pL h' 175 ((t * 4 + m) * 10 + p.1 10 k) (xL h' 175 ((t * 4 + m) * 10 + p.1 10 k) ||| v &&& l3), ⟨F.tr (Fr.l rfl), fun i hi => ?_, fun r hr j hj => ?_⟩, ?_⟩
          · rw [xL_pL, if_neg (by omega)]; exact out i hi
          · have vb := vb j hj
            rw [F.L _ (by omega), ← laf_D (by omega) (by omega), cH_congr w (Y := TVb h j (t - 1) m) (fun r hr => by unfold TVb; rw [out _ (by omega)])] at vb
            rw [xL_pL, rany_succ, e1, e2]
            by_cases er : r = p.1 10 k
            · rw [if_pos ⟨rfl, by omega⟩, tl_or, tl_and, ← er, val r hr j hj, vb]
              simp only [decide_true, Bool.not_true, beq_self_eq_true, Bool.true_and]
              cases fD (laf h L j) m (t - 1) <;> cases tl l3 j <;> simp [Bool.or_assoc]
            · have : (p.1 10 k == r) = false := by simp; omega
              rw [if_neg (by omega), val r hr j hj, this]
              simp
          · rw [if_pos e1, e2, if_pos rfl, if_neg (by decide), hv]
            simp (disch := omega) only [LT_e, G_T, BN_ok, if_true, if_false, nI_add, pk_mul, G_gx, nI_cl, nI_lI, nI_tI, nI_eI, C'.s.c175, C'.s.z175]
        · refine ⟨h', ⟨F, out, fun r hr j hj => ?_⟩, ?_⟩
          · rw [val r hr j hj, rany_succ]; simp [e2]
          · rw [if_pos e1, if_neg e2, if_pos rfl]
      · refine ⟨h', ⟨F, out, fun r hr j hj => ?_⟩, ?_⟩
        · have : (p.1 13 k == 0) = false := by simp [e1]
          rw [val r hr j hj, rany_succ, this]; simp
        · rw [if_neg e1])
    (by
      rintro n h' ⟨F, out, val⟩
      have C' := C.fr F (by intro a q; omega)
      have q := C'.q
      simp (disch := omega) only [X2_addNext_B13, LT_e, G_T, BN_ok, if_true, if_false, nI_add, pk_mul, G_gx, nI_cl, nI_lI, nI_tI, nI_eI, C'.s.c174, C'.r8, q.s.c, q.u, Nat.le_refl])
  refine ⟨h', e, F, out, fun r hr j hj => ?_⟩
  rw [val r hr j hj]
  unfold nxB
  rw [decide_eq_true ht, Bool.true_and]
theorem pas_skip {B : BK} {m k : Nat} {X : Nat → Bool} (h : ¬ (B 13 k = 1 ∧ isF B k m = true)) : pas B m X (k + 1) = pas B m X k := by
  rw [pas, if_neg (fun q => h ⟨q.1, q.2.1⟩)]
theorem TVb_pL {h : AH} {j t m c : Nat} {y : Int64} : TVb (pL h 175 ((t * 4 + m) * 10 + c) y) j t m = fun r => if r = c then tl y j else TVb h j t m r := by
  funext r
  unfold TVb
  rw [xL_pL]
  by_cases e : r = c
  · rw [if_pos ⟨rfl, by omega⟩, if_pos e]
  · rw [if_neg (by omega), if_neg e]
theorem pas_big {B : BK} {m : Nat} {X : Nat → Bool} (w : ∀ i, i < B 3 0 → B 10 i < B 1 0) : ∀ k, k ≤ B 3 0 → ∀ r, B 1 0 ≤ r → pas B m X k r = X r := by
  intro k
  induction k with
  | zero => intro _ r _; rfl
  | succ k ih =>
    intro hk r hr
    have h1 := w k (by omega)
    unfold pas
    split
    · show (pas B m X k r || r == B 10 k) = _
      rw [ih (by omega) r hr, show (r == B 10 k) = false by simp; omega, Bool.or_false]
    · exact ih (by omega) r hr
theorem addNow_in {h : AH} {wk b L m t rd : Nat} {p : PR} (k15 : Nat → Int32 → Int32 → Int32 → Int32 → Int32 → AH → Option (Unit × AH)) (C : CoX h wk b L p) (hm : m < p.1 0 0) (ht6 : t ≤ 6) (hrd : rd < 10) : ∃ g h', X2_addNow_B33 k15 FU 174 (nI m) (nI t) (nI ((t * 4 + m) * 10)) (nI 0) (nI rd) (nI 0) h = k15 174 (nI m) (nI t) (nI ((t * 4 + m) * 10)) g (nI (rd + 1)) h' ∧ Fr (fun a => a = 175) h h' ∧ (∀ i, ¬ ((t * 4 + m) * 10 ≤ i ∧ i < (t * 4 + m) * 10 + 10) → xL h' 175 i = xL h 175 i) ∧ (∀ j, j < 64 → TVb h' j t m = if fD (laf h L j) m t then TVb h j t m else pas p.1 m (TVb h j t m) (p.1 3 0)) ∧ (g = nI 0 → ∀ j, j < 64 → TVb h' j t m = TVb h j t m) := by
  have wm := C.q.w.m
  have wr := C.q.w.r
  have wu := C.q.w.u
  have hL := C.l.w
  obtain ⟨g, h', ⟨F, out, val, gz⟩, e⟩ := loopEV (F := fun n k g h' => X2_addNow_B33 k15 n 174 (nI m) (nI t) (nI ((t * 4 + m) * 10)) g (nI rd) (nI k) h') (E := fun g h' => k15 174 (nI m) (nI t) (nI ((t * 4 + m) * 10)) g (nI (rd + 1)) h') (p.1 3 0) (fun k g h' => Fr (fun a => a = 175) h h' ∧ (∀ i, ¬ ((t * 4 + m) * 10 ≤ i ∧ i < (t * 4 + m) * 10 + 10) → xL h' 175 i = xL h 175 i) ∧ (∀ j, j < 64 → TVb h' j t m = if fD (laf h L j) m t then TVb h j t m else pas p.1 m (TVb h j t m) k) ∧ (g = nI 0 → ∀ j, j < 64 → TVb h' j t m = TVb h j t m)) (Nat.zero_le _) (by omega) (v := nI 0) (h := h) ⟨Fr.rf, fun _ _ => rfl, fun j _ => by split <;> rfl, fun _ _ _ => rfl⟩
    (by
      rintro n k g h' hk ⟨F, out, val, gz⟩
      have C' := C.fr F (by intro a q; omega)
      have q := C'.q
      have w := q.w.ru k hk
      have cl := q.ru k hk
      have wn := q.w.nw k hk
      have w1 := w.row
      have w2 := w.pl
      have hk' : ¬ p.1 3 0 ≤ k := by omega
      simp (disch := omega) only [X2_addNow_B33, X2_addNow_B136, X2_addNow_B133, LT_e, G_T, BN_ok, if_true, if_false, nI_add, pk_mul, G_gx, nI_cl, nI_lI, nI_tI, nI_eI, C'.s.c174, C'.s.r174_0, C'.s.c175, C'.s.z175, C'.r8, q.s.c, q.s.r10, q.s.c4, q.s.z4, q.u, hk', q.s.ru, cl.s.c, cl.now, nI_z, isFor_ok cl (by omega : p.1 11 k ≤ 4) (by omega : m < 4), cl.row]
      by_cases e1 : p.1 13 k = 0
      · refine ⟨g, h', ⟨F, out, fun j hj => ?_, gz⟩, ?_⟩
        · rw [val j hj]
          rw [pas_skip (by omega)]
        · rw [if_pos e1]
      · by_cases e2 : isF p.1 k m = true
        · obtain ⟨v, hv, vb⟩ := held_ok C'.s C'.l C'.r9 cl w wr (m := m) (t := t) (bare := nI 0) (by omega) (by omega)
          rw [if_neg e1, if_pos e2, if_neg (by decide), hv]
          simp (disch := omega) only [LT_e, G_T, BN_ok, if_true, if_false, nI_add, pk_mul, G_gx, nI_cl, nI_lI, nI_tI, nI_eI, C'.s.c174, C'.s.r174_0, C'.s.c175, C'.s.z175, cl.s.c, cl.row, cmp0n]
          have tvj : ∀ j, j < 64 → TVb (pL h' 175 ((t * 4 + m) * 10 + p.1 10 k) (xL h' 175 ((t * 4 + m) * 10 + p.1 10 k) ||| v &&& (xL h' 175 ((t * 4 + m) * 10 + p.1 10 k) ^^^ -1))) j t m = if fD (laf h L j) m t then TVb h j t m else pas p.1 m (TVb h j t m) (k + 1) := by
            intro j hj
            have vb := vb j hj
            rw [F.L _ (by omega), ← laf_D (by omega) (by omega)] at vb
            rw [TVb_pL]
            funext r
            have e4 : tl (xL h' 175 ((t * 4 + m) * 10 + p.1 10 k)) j = TVb h' j t m (p.1 10 k) := rfl
            have e5 : (fun r => tl (xL h' 175 ((t * 4 + m) * 10 + r)) j) = TVb h' j t m := rfl
            rw [e5] at vb
            rw [tl_or, tl_and, tl_not hj, vb, e4, val j hj]
            cases hd : fD (laf h L j) m t
            · simp only [Bool.false_eq_true, if_false, Bool.not_false, Bool.true_and]
              rw [pas]
              have e3 : p.1 13 k = 1 := by omega
              simp only [e2, e3, true_and, decide_true, Bool.not_true]
              by_cases er : r = p.1 10 k
              · subst er
                cases hc : cH p.1 k false (pas p.1 m (TVb h j t m) k) <;> simp
              · have er' : (r == p.1 10 k) = false := by simp [er]
                cases hc : cH p.1 k false (pas p.1 m (TVb h j t m) k) <;> simp [er, er']
            · by_cases er : r = p.1 10 k
              · simp [er]
              · simp [er]
          by_cases hz : v &&& (xL h' 175 ((t * 4 + m) * 10 + p.1 10 k) ^^^ -1) = lN 0
          · refine ⟨g ||| nI 0, _, ⟨F.tr (Fr.l rfl), fun i hi => ?_, tvj, fun hg j hj => ?_⟩, by rw [if_pos hz]⟩
            · rw [xL_pL, if_neg (by omega)]; exact out i hi
            · rw [← gz (or_n0.mp hg) j hj, TVb_pL]
              funext r
              rw [tl_or, hz, tl_n0, Bool.or_false]
              by_cases er : r = p.1 10 k
              · rw [if_pos er, er]; rfl
              · rw [if_neg er]
          · refine ⟨g ||| nI 1, _, ⟨F.tr (Fr.l rfl), fun i hi => ?_, tvj, fun hg j hj => ?_⟩, by rw [if_neg hz]⟩
            · rw [xL_pL, if_neg (by omega)]; exact out i hi
            · exact (or_n1.mp hg).elim
        · refine ⟨g, h', ⟨F, out, fun j hj => ?_, gz⟩, ?_⟩
          · rw [val j hj]
            rw [pas_skip (fun q => e2 q.2)]
          · rw [if_neg e1, if_neg e2, if_pos rfl])
    (by
      rintro n g h' ⟨F, out, val, gz⟩
      have C' := C.fr F (by intro a q; omega)
      have q := C'.q
      simp (disch := omega) only [X2_addNow_B33, X2_addNow_B142, LT_e, G_T, BN_ok, if_true, if_false, nI_add, pk_mul, G_gx, nI_cl, nI_lI, nI_tI, nI_eI, C'.s.c174, C'.r8, q.s.c, q.u, Nat.le_refl])
  exact ⟨g, h', e, F, out, val, gz⟩
theorem addNow_ok {h : AH} {wk b L m t : Nat} {p : PR} (C : CoX h wk b L p) (hm : m < p.1 0 0) (ht6 : t ≤ 6) : ∃ h', X2_addNow_f 174 (nI m) (nI t) h = some ((), h') ∧ Fr (fun a => a = 175) h h' ∧ (∀ i, ¬ ((t * 4 + m) * 10 ≤ i ∧ i < (t * 4 + m) * 10 + 10) → xL h' 175 i = xL h 175 i) ∧ ∀ j, j < 64 → TVb h' j t m = if fD (laf h L j) m t then TVb h j t m else clo p.1 m 10 (TVb h j t m) := by
  have hL := C.l.w
  unfold X2_addNow_f
  simp only [cell_ok, LT_e, G_T, BN_ok, if_true, if_false, nI_add, pk_mul, G_gx, nI_cl, nI_lI, nI_tI, nI_eI]
  refine loopV (F := fun n k g h' => X2_addNow_B15 n 174 (nI m) (nI t) (nI ((t * 4 + m) * 10)) g (nI k) h') 10 (fun k g h' => Fr (fun a => a = 175) h h' ∧ (∀ i, ¬ ((t * 4 + m) * 10 ≤ i ∧ i < (t * 4 + m) * 10 + 10) → xL h' 175 i = xL h 175 i) ∧ (∀ j, j < 64 → if fD (laf h L j) m t then TVb h' j t m = TVb h j t m else clo p.1 m (10 - k) (TVb h' j t m) = clo p.1 m 10 (TVb h j t m)) ∧ (g = nI 0 → ∀ j, j < 64 → fD (laf h L j) m t = false → pas p.1 m (TVb h' j t m) (p.1 3 0) = TVb h' j t m)) (fun o => ∃ h', o = some ((), h') ∧ Fr (fun a => a = 175) h h' ∧ (∀ i, ¬ ((t * 4 + m) * 10 ≤ i ∧ i < (t * 4 + m) * 10 + 10) → xL h' 175 i = xL h 175 i) ∧ ∀ j, j < 64 → TVb h' j t m = if fD (laf h L j) m t then TVb h j t m else clo p.1 m 10 (TVb h j t m)) ?_ ?_ (Nat.zero_le _) (FU_gt (by omega)) ⟨Fr.rf, fun _ _ => rfl, fun j _ => by split <;> rfl, fun hg => absurd hg (by decide)⟩
  · rintro n k g h' hk ⟨F, out, val, gz⟩
    have C' := C.fr F (by intro a q; omega)
    have hk' : ¬ 10 ≤ k := by omega
    by_cases hg : g = nI 0
    · right
      refine ⟨h', ?_, F, out, fun j hj => ?_⟩
      · simp (disch := omega) only [X2_addNow_B15, LT_e, G_T, BN_ok, if_true, if_false, nI_add, pk_mul, G_gx, nI_cl, nI_lI, nI_tI, nI_eI, hk', hg, nI_z]
      · have v1 := val j hj
        cases hd : fD (laf h L j) m t
        · rw [hd] at v1
          rw [if_neg (by decide)] at v1 ⊢
          rw [← v1, clo_stop (gz hg j hj hd)]
        · rw [hd] at v1
          rw [if_pos rfl] at v1 ⊢
          exact v1
    · left
      obtain ⟨g2, h2, e2, F2, out2, val2, gz2⟩ := addNow_in (X2_addNow_B15 n) C' hm ht6 hk
      refine ⟨g2, h2, ⟨F.tr F2, fun i hi => by rw [out2 i hi, out i hi], fun j hj => ?_, fun hg2 j hj hd => ?_⟩, ?_⟩
      · have v1 := val j hj
        have v2 := val2 j hj
        rw [laf_fr F (by omega) (by omega) (by omega)] at v2
        cases hd : fD (laf h L j) m t
        · rw [hd, if_neg (by decide)] at v1 v2
          rw [if_neg (by decide), v2, ← v1, show 10 - k = (10 - (k + 1)) + 1 by omega]
          rfl
        · rw [hd, if_pos rfl] at v1 v2
          rw [if_pos rfl, v2, v1]
      · have v2 := val2 j hj
        rw [laf_fr F (by omega) (by omega) (by omega), hd, if_neg (by decide)] at v2
        rw [gz2 hg2 j hj] at v2 ⊢
        exact v2.symm
      · simp (disch := omega) only [X2_addNow_B15, LT_e, G_T, BN_ok, if_true, if_false, nI_add, pk_mul, G_gx, nI_cl, nI_lI, nI_tI, nI_eI, hk', hg, nI_z]
        exact e2
  · rintro n g h' ⟨F, out, val, gz⟩
    refine ⟨h', ?_, F, out, fun j hj => ?_⟩
    · simp (disch := omega) only [X2_addNow_B15, LT_e, G_T, BN_ok, if_true, if_false, nI_add, pk_mul, G_gx, nI_cl, nI_lI, nI_tI, nI_eI, Nat.le_refl]
    · have v1 := val j hj
      cases hd : fD (laf h L j) m t
      · rw [hd, if_neg (by decide)] at v1
        rw [if_neg (by decide), ← v1]; rfl
      · rw [hd, if_pos rfl] at v1
        rw [if_pos rfl]; exact v1
