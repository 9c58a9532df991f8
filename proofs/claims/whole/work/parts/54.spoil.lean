/-- falls g spoil the formula of the run of f -/
def spo (p : PR) (f g : FL) : Bool := !((List.range (p.1 61 0)).any fun i => Sz p f g (pl p) (p.1 65 i) (p.1 64 i))
/-- what stands, by ticks ahead of t and machines ahead of m -/
def SI_ (h h' : AH) (L : Nat) (p : PR) (f : FL) (t m : Nat) : Prop := Fr (fun x => x = 181) h h' ∧ ∀ j, j < 64 → ∀ u n r, ((u < t ∧ n < p.1 0 0) ∨ (u = t ∧ n < m)) → r < p.1 1 0 → SVb h' j u n r = Sz p f (laf h L j) u n r
theorem spoil_ticks {h : AH} {wk b a L : Nat} {p : PR} {f : FL} (C : SuX h wk b a L p f) : ∃ h', X7_spoiledLanes_B26 FU 180 (nI 0) h = X7_spoiledLanes_B73 180 h' ∧ SI_ h h' L p f (pl p + 1) 0 := by
  have w := C.q.w
  have wm := w.m
  have wr := w.r
  have hx := C.x
  have hL := C.l.w
  obtain ⟨h', g, e⟩ := loopE (F := fun n t h' => X7_spoiledLanes_B26 n 180 (nI t) h') (E := fun h' => X7_spoiledLanes_B73 180 h') (pl p + 1) (fun t h' => SI_ h h' L p f t 0) (Nat.zero_le _) (by omega) (h := h) ⟨Fr.rf, fun j hj u n r hu => by omega⟩
    (by
      intro n t h' ht g
      have C' := C.fr g.1 (fun x q => q)
      have ht' : ¬ pl p < t := by omega
      obtain ⟨h2, g2, e2⟩ := loopE (F := fun n' m h' => X7_spoiledLanes_B41 (X7_spoiledLanes_B26 n) n' 180 (nI t) (nI m) h') (E := fun h' => X7_spoiledLanes_B26 n 180 (nI (t + 1)) h') (p.1 0 0) (fun m h' => SI_ h h' L p f t m) (Nat.zero_le _) (by omega) (h := h') g
        (by
          intro n' m h2 hm g2
          have C2 := C.fr g2.1 (fun x q => q)
          have L2 : ∀ j, laf h2 L j = laf h L j := laf_fr g2.1 (by omega) (by omega) (by omega)
          have hm' : ¬ p.1 0 0 ≤ m := by omega
          obtain ⟨h3, e3, F3, o3, v3⟩ := settle_ok C2 hm (by omega : t ≤ pl p) (fun j hj u n r hu hn hr => by rw [L2]; exact g2.2 j hj u n r (.inl ⟨hu, hn⟩) hr)
          refine ⟨h3, ⟨g2.1.tr F3, fun j hj u n r hu hr => ?_⟩, ?_⟩
          · by_cases e : u = t ∧ n = m
            · rw [e.1, e.2, v3 j hj r hr, L2]
            · rw [← g2.2 j hj u n r (by omega) hr]
              unfold SVb
              rw [o3 _ (by omega)]
          · simp (disch := omega) only [X7_spoiledLanes_B41, LT_e, G_T, BN_ok, if_true, if_false, nI_add, pk_mul, G_gx, nI_cl, nI_lI, nI_tI, nI_eI, C2.s.c180, C2.r2, C2.q.s.c, C2.q.m, hm', e3])
        (by
          intro n' h2 g2
          have C2 := C.fr g2.1 (fun x q => q)
          simp (disch := omega) only [X7_spoiledLanes_B41, X7_spoiledLanes_B67, LT_e, G_T, BN_ok, if_true, if_false, nI_add, pk_mul, G_gx, nI_cl, nI_lI, nI_tI, nI_eI, C2.s.c180, C2.r2, C2.q.s.c, C2.q.m, Nat.le_refl])
      refine ⟨h2, ⟨g2.1, fun j hj u n r hu hr => g2.2 j hj u n r (by omega) hr⟩, ?_⟩
      simp (disch := omega) only [X7_spoiledLanes_B26, LT_e, G_T, BN_ok, if_true, if_false, nI_add, pk_mul, G_gx, nI_cl, nI_lI, nI_tI, nI_eI, C'.s.c180, C'.r1, C'.w.c, C'.w.l, ht']
      exact e2)
    (by
      intro n h' g
      have C' := C.fr g.1 (fun x q => q)
      have ht' : pl p < pl p + 1 := by omega
      simp (disch := omega) only [X7_spoiledLanes_B26, LT_e, G_T, BN_ok, if_true, if_false, nI_add, pk_mul, G_gx, nI_cl, nI_lI, nI_tI, nI_eI, C'.s.c180, C'.r1, C'.w.c, C'.w.l, ht'])
  exact ⟨h', e, g⟩
theorem spoil_post {h : AH} {wk b a L : Nat} {p : PR} {f : FL} (C : SuX h wk b a L p f) {e : Nat} (he : e = pl p * 4 * 10) : ∀ n k (x : Int64), k ≤ p.1 61 0 → p.1 61 0 - k < n → ∃ x', X7_spoiledLanes_B95 n 180 (nI e) x (nI k) h = X7_spoiledLanes_B136 x' h ∧ ∀ j, j < 64 → tl x' j = (tl x j || anyF (fun i => SVb h j (pl p) (p.1 65 i) (p.1 64 i)) k (p.1 61 0)) := by
  have w := C.q.w
  have w2 := w.no
  have wr := w.r
  have wm := w.m
  have hx := C.x
  intro n
  induction n with
  | zero => intro k x _ h; exact absurd h (Nat.not_lt_zero _)
  | succ n ih =>
    intro k x hk hn
    rcases Nat.lt_or_ge k (p.1 61 0) with hk | hk
    · have h1 := w.or k hk
      have h2 := w.oa k hk
      have hk' : ¬ p.1 61 0 ≤ k := by omega
      obtain ⟨x', e1, e2⟩ := ih (k + 1) (x ||| xL h 181 (e + (p.1 65 k * 10 + p.1 64 k))) (by omega) (by omega)
      refine ⟨x', ?_, fun j hj => ?_⟩
      · simp (disch := omega) only [X7_spoiledLanes_B95, LT_e, G_T, BN_ok, if_true, if_false, nI_add, pk_mul, G_gx, nI_cl, nI_lI, nI_tI, nI_eI, C.s.c180, C.r2, C.q.s.c, C.q.no, hk', C.q.s.r13, C.q.s.c7, C.q.s.z7, C.q.be, C.s.r180_0, C.s.c181, C.s.z181, e1]
      · rw [e2 j hj, anyF_step hk, tl_or, ← Bool.or_assoc]
        congr 2
        unfold SVb
        rw [show e + (p.1 65 k * 10 + p.1 64 k) = (pl p * 4 + p.1 65 k) * 10 + p.1 64 k by omega]
    · have : k = p.1 61 0 := by omega
      subst this
      refine ⟨x, ?_, fun j hj => by rw [anyF_end (Nat.le_refl _), Bool.or_false]⟩
      simp (disch := omega) only [X7_spoiledLanes_B95, LT_e, G_T, BN_ok, if_true, if_false, nI_add, pk_mul, G_gx, nI_cl, nI_lI, nI_tI, nI_eI, C.s.c180, C.r2, C.q.s.c, C.q.no, Nat.le_refl]
theorem spoiled_ok {h : AH} {wk b a L : Nat} {p : PR} {f : FL} (s : SG h) (l : LaS h L) (w : IsW h wk b p) (q : IsCB h b p.1) (t : IsTr h a p f) (n : 1 ≤ pl p) (x : pl p ≤ 6) : ∃ v h', X7_spoiledLanes_f 180 wk a L h = some (v, h') ∧ Fq (fun x => x = 181) h h' ∧ ∀ j, j < 64 → (∀ t m r, t ≤ pl p → m < p.1 0 0 → r < p.1 1 0 → SVb h' j t m r = Sz p f (laf h L j) t m r) ∧ tl v j = spo p f (laf h L j) := by
  have hL := l.w
  have hw := w.w
  have ha := t.s.w
  have wo := q.w.no
  have F0 : Fq (fun x => x = 181) h (pR (pR (pR (pR h 180 1 wk) 180 2 b) 180 3 a) 180 4 L) := (((Fq.R (.inr ⟨rfl, by decide⟩)).tr (Fq.R (.inr ⟨rfl, by decide⟩))).tr (Fq.R (.inr ⟨rfl, by decide⟩))).tr (Fq.R (.inr ⟨rfl, by decide⟩))
  generalize hk : pR (pR (pR (pR h 180 1 wk) 180 2 b) 180 3 a) 180 4 L = k at F0
  have C0 : SuX k wk b a L p f := ⟨s.fq F0, l.fq F0, w.fq F0 (by omega), q.fq F0 (by intro a q; omega), t.fq F0 (by intro k hk; omega), by rw [← hk]; rfl, by rw [← hk]; rfl, by rw [← hk]; rfl, by rw [← hk]; rfl, n, x⟩
  have lf0 : ∀ j, laf k L j = laf h L j := fun j => by unfold laf; simp only [F0.L _ (by omega : ¬ (L + 1 = 181)), F0.L _ (by omega : ¬ (L + 2 = 181)), F0.L _ (by omega : ¬ (L + 3 = 181))]
  obtain ⟨k1, e1, g1⟩ := spoil_ticks C0
  have C1 := C0.fr g1.1 (fun x q => q)
  obtain ⟨x', e2, v2⟩ := spoil_post C1 (e := pl p * 4 * 10) rfl FU 0 (lN 0) (Nat.zero_le _) (FU_gt (by omega))
  refine ⟨x' ^^^ -1, k1, ?_, F0.tr g1.1.q, fun j hj => ⟨fun t m r ht hm hr => ?_, ?_⟩⟩
  · have hr : xR (pR h 180 1 wk) wk 0 = b := by rw [xR_pR, if_neg (by omega)]; exact w.bk
    have c1 : xc (pR h 180 1 wk) wk = 10 := w.c
    have c2 : xc (pR h 180 1 wk) 180 = 7 := s.c180
    have c3 : xc (pR (pR h 180 1 wk) 180 2 b) 180 = 7 := s.c180
    have c4 : xc (pR (pR (pR h 180 1 wk) 180 2 b) 180 3 a) 180 = 7 := s.c180
    have hc : X11_cell_f (nI (pl p)) (nI 0) k1 = some (nI (pl p * 4), k1) := by rw [cell_ok, Nat.add_zero]
    unfold X7_spoiledLanes_f
    rw [G_t s.c180, LT_e, G_t c1, G_t c2, hr, LT_e, G_t c3, LT_e, G_t c4, LT_e, hk, e1]
    unfold X7_spoiledLanes_B73
    rw [G_t C1.s.c180, C1.r1, G_t C1.w.c, C1.w.l, hc, BN_ok, LT_e, pk_mul, LT_e, e2]
    rfl
  · rw [g1.2 j hj t m r (.inl ⟨by omega, hm⟩) hr, lf0]
  · rw [tl_not hj, v2 j hj, tl_n0, Bool.false_or, anyF_0]
    unfold spo
    congr 1
    apply any_congr
    intro i hi
    have hi := List.mem_range.mp hi
    rw [g1.2 j hj _ _ _ (.inl ⟨by omega, q.w.oa i hi⟩) (q.w.or i hi), lf0]
