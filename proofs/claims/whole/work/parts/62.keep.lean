theorem getD_app {l : List Nat} {v j : Nat} (hj : j ≤ l.length) : (l ++ [v]).getD j 0 = if j < l.length then l.getD j 0 else v := by
  rw [List.getD_eq_getElem?_getD]
  by_cases h : j < l.length
  · rw [if_pos h, List.getElem?_append_left h, ← List.getD_eq_getElem?_getD]
  · have : j = l.length := by omega
    subst this
    rw [if_neg h, List.getElem?_append_right (Nat.le_refl _), Nat.sub_self]; rfl
theorem append_ok {h : AH} {a z v : Nat} {l : List Nat} (n : IsN h a z l) (hz : l.length < z) : ∃ h', X4_append_f a (nI v) h = some ((), h') ∧ Fr (fun x => x = a ∨ x = a + 1) h h' ∧ IsN h' a z (l ++ [v]) := by
  have hx := n.x
  have hn := n.n
  have n0 : ¬ z ≤ l.length := by omega
  have F : Fr (fun x => x = a ∨ x = a + 1) h (pI (pI h (a + 1) l.length (nI v)) a 1 (nI (l.length + 1))) := (Fr.i (.inr rfl)).tr (Fr.i (.inl rfl))
  refine ⟨_, ?_, F, by rw [F.c]; exact n.c, by rw [F.r]; exact n.r, by rw [F.c]; exact n.c1, by rw [F.z]; exact n.z1, by rw [List.length_append]; simp; omega, hx, by rw [xI_self, List.length_append]; rfl, fun j hj => ?_⟩
  · unfold X4_append_f
    simp (disch := omega) only [LT_e, G_T, BN_ok, if_true, if_false, nI_add, pk_mul, G_gx, nI_cl, nI_lI, nI_tI, nI_eI, xc_pI, xz_pI, xR_pI, xL_pI, xc_pL, xz_pL, xR_pL, xI_pL, xn_pI, xn_pL, n.c, n.r, n.c1, n.z1, n.s, n0, xI_ne (by omega : ¬ (a = a + 1 ∧ 1 = l.length))]
  · have hj : j < l.length + 1 := by rw [List.length_append] at hj; exact hj
    rw [xI_ne (by omega), getD_app (by omega)]
    by_cases e : j < l.length
    · rw [if_pos e, xI_ne (by omega)]; exact n.v j e
    · rw [if_neg e, show j = l.length by omega, xI_self]
/-- the skeleton of a few numbers -/
def NuS (h : AH) (a z : Nat) : Prop := xc h a = 4 ∧ xR h a 0 = a + 1 ∧ xc h (a + 1) = 16 ∧ xz h (a + 1) = z ∧ z ≤ 6
theorem IsN.nus {h : AH} {a z : Nat} {l : List Nat} (n : IsN h a z l) : NuS h a z := ⟨n.c, n.r, n.c1, n.z1, n.x⟩
theorem NuS.nil {h : AH} {a z : Nat} (n : NuS h a z) (e : xI h a 1 = nI 0) : IsN h a z [] := ⟨n.1, n.2.1, n.2.2.1, n.2.2.2.1, Nat.zero_le _, n.2.2.2.2, e, fun i hi => absurd hi (Nat.not_lt_zero _)⟩
theorem NuS.fr {A : Nat → Prop} {h h' : AH} {a z : Nat} (F : Fr A h h') (q : NuS h a z) : NuS h' a z := by
  unfold NuS at *; simp only [F.c, F.z, F.r]; exact q
theorem take_n {h : AH} {a c z y : Nat} {l : List Nat} (s : NuS h a z) (n : IsN h c y l) (hl : l.length ≤ z) (ne : c ≠ a ∧ c ≠ a + 1 ∧ c + 1 ≠ a ∧ c + 1 ≠ a + 1) : ∃ h', X4_take_f a c h = some ((), h') ∧ Fr (fun x => x = a ∨ x = a + 1) h h' ∧ IsN h' a z l := by
  have hx := n.x
  have hn := n.n
  have F0 : Fr (fun x => x = a ∨ x = a + 1) h (pI h a 1 (nI 0)) := Fr.i (.inl rfl)
  have s0 := (s.fr F0).nil xI_self
  obtain ⟨h', ⟨F, q⟩, e⟩ := loopE (F := fun n k h' => X4_take_B7 n a c (nI k) h') (E := fun h' => some ((), h')) l.length (fun k h' => Fr (fun x => x = a ∨ x = a + 1) h h' ∧ IsN h' a z (l.take k)) (Nat.zero_le _) (by omega) (h := pI h a 1 (nI 0)) ⟨F0, by rw [List.take_zero]; exact s0⟩
    (by
      rintro m k h' hk ⟨F, q⟩
      have n' := n.fr F (by omega) (by omega)
      have hk' : ¬ l.length ≤ k := by omega
      have tl' : (l.take k).length = k := by rw [List.length_take]; omega
      obtain ⟨h2, e2, F2, q2⟩ := append_ok (v := l.getD k 0) q (by omega)
      refine ⟨h2, ⟨F.tr F2, ?_⟩, ?_⟩
      · have : l.take (k + 1) = l.take k ++ [l.getD k 0] := by
          rw [List.take_succ, List.getElem?_eq_getElem hk, List.getD_eq_getElem?_getD, List.getElem?_eq_getElem hk]; rfl
        rw [this]; exact q2
      · simp (disch := omega) only [X4_take_B7, LT_e, G_T, BN_ok, if_true, if_false, nI_add, pk_mul, G_gx, nI_cl, nI_lI, nI_tI, nI_eI, n'.c, n'.s, hk', n'.r, n'.c1, n'.z1, q.c, n'.v, e2])
    (by
      rintro m h' ⟨F, q⟩
      have n' := n.fr F (by omega) (by omega)
      simp (disch := omega) only [X4_take_B7, LT_e, G_T, BN_ok, if_true, if_false, nI_add, pk_mul, G_gx, nI_cl, nI_lI, nI_tI, nI_eI, n'.c, n'.s, Nat.le_refl])
  refine ⟨h', ?_, F, by rw [List.take_length] at q; exact q⟩
  unfold X4_take_f
  rw [G_t s.1, LT_e]
  exact e
theorem ks_c {h : AH} (g : SG h) : ∀ k, k < 8 → xR h 128 k = 129 + 2 * k ∧ NuS h (129 + 2 * k) 6 := by
  intro k hk
  match k, hk with
  | 0, _ => exact ⟨g.r128_0, g.c129, g.r129_0, g.c130, g.z130, by decide⟩
  | 1, _ => exact ⟨g.r128_1, g.c131, g.r131_0, g.c132, g.z132, by decide⟩
  | 2, _ => exact ⟨g.r128_2, g.c133, g.r133_0, g.c134, g.z134, by decide⟩
  | 3, _ => exact ⟨g.r128_3, g.c135, g.r135_0, g.c136, g.z136, by decide⟩
  | 4, _ => exact ⟨g.r128_4, g.c137, g.r137_0, g.c138, g.z138, by decide⟩
  | 5, _ => exact ⟨g.r128_5, g.c139, g.r139_0, g.c140, g.z140, by decide⟩
  | 6, _ => exact ⟨g.r128_6, g.c141, g.r141_0, g.c142, g.z142, by decide⟩
  | 7, _ => exact ⟨g.r128_7, g.c143, g.r143_0, g.c144, g.z144, by decide⟩
theorem getD_app2 {s : LLn} {l : List Nat} {j : Nat} (hj : j ≤ s.length) : (s ++ [l]).getD j [] = if j < s.length then s.getD j [] else l := by
  rw [List.getD_eq_getElem?_getD]
  by_cases h : j < s.length
  · rw [if_pos h, List.getElem?_append_left h, ← List.getD_eq_getElem?_getD]
  · have : j = s.length := by omega
    subst this
    rw [if_neg h, List.getElem?_append_right (Nat.le_refl _), Nat.sub_self]; rfl
theorem pr_keep {h : AH} {bo : Bool} {p : PR} {b m z : Nat} {l lm : List Nat} {s : LLn} {r : NN_} {lo lx : List Nat} (i : INV h bo p b m z l lm s r lo lx) : Pair (X11_keep_f 1) (X15_keep_f 195) h := by
  have gi := fun (v : Int32) => (i.g.i (a := 1) (k := 15) (v := v))
  have hl := i.f.n.n
  have hk := i.k.x
  cases bo
  · have hr := (i.b.b0 rfl).mr
    refine Pair.no i (nI 1) (-1) n4_1 ?_ ?_
    · unfold X11_keep_f
      rw [G_t i.g.c1, i.q.hb, if_pos (by decide), G_t i.g.c1, refuse_c i.g, BN_ok]
    · unfold X15_keep_f
      rw [G_t (gi _).c195, LT_e, G_t (gi _).i.c195, xR_pI, xR_pI, if_pos hr, G_t (gi _).i.c195, refused_m (gi _).i, BN_ok]
  · have hr := mr_ne i rfl
    have m16 : ∀ v : Int32, xI (pI (pI h 1 15 v) 195 0 (nI 0)) 195 16 = nI l.length := fun v => by rw [xI_ne (by omega), xI_ne (by omega)]; exact i.f.m
    have m18 : ∀ v : Int32, xI (pI (pI h 1 15 v) 195 0 (nI 0)) 195 18 = nI s.length := fun v => by rw [xI_ne (by omega), xI_ne (by omega)]; exact i.k.m
    by_cases h0 : l.length = 0
    · refine Pair.no i (nI 5) (-1) n4_5 ?_ ?_
      · unfold X11_keep_f
        rw [G_t i.g.c1, i.q.hb, if_neg (by decide), G_t i.g.c1, i.g.r1_3, G_t i.g.c120, i.f.n.s, h0, if_pos nI_0, G_t i.g.c1, refuse_c i.g, BN_ok]
      · unfold X15_keep_f
        rw [G_t (gi _).c195, LT_e, G_t (gi _).i.c195, xR_pI, xR_pI, if_neg hr, G_t (gi _).i.c195, m16, h0, if_pos nI_0, G_t (gi _).i.c195, refused_m (gi _).i, BN_ok]
    · have l0 : ¬ nI l.length = 0 := nI_ne0 (by omega) (by omega)
      by_cases h8 : s.length = 8
      · refine Pair.no i (nI 3) (-1) n4_3 ?_ ?_
        · unfold X11_keep_f
          rw [G_t i.g.c1, i.q.hb, if_neg (by decide), G_t i.g.c1, i.g.r1_3, G_t i.g.c120, i.f.n.s, if_neg l0, G_t i.g.c1, i.k.c, h8, if_pos rfl, G_t i.g.c1, refuse_c i.g, BN_ok]
        · unfold X15_keep_f
          rw [G_t (gi _).c195, LT_e, G_t (gi _).i.c195, xR_pI, xR_pI, if_neg hr, G_t (gi _).i.c195, m16, if_neg l0, G_t (gi _).i.c195, m18, h8, if_pos rfl, G_t (gi _).i.c195, refused_m (gi _).i, BN_ok]
      · have s8 : ¬ nI s.length = nI 8 := by rw [nI_eI (by omega) (by omega)]; exact h8
        obtain ⟨kr, ku⟩ := ks_c i.g s.length (by omega)
        obtain ⟨h1, e1, F1, n1⟩ := take_n ku i.f.n hl (by omega)
        have g1 := i.g.fr F1
        obtain ⟨hc, hce⟩ : ∃ hc, hc = pI (pI h1 1 14 (nI (s.length + 1))) 1 15 (nI 0) := ⟨_, rfl⟩
        have gc : SG hc := by rw [hce]; exact g1.i.i
        have Fc : Fz (fun a k => SCR m a k ∨ a = 129 + 2 * s.length ∨ a = 129 + 2 * s.length + 1 ∨ a = 1 ∧ k = 14 ∨ a = 200 ∨ a = 201 ∨ a = 195 ∧ k = 18) h hc := by
          rw [hce]
          exact ((F1.q.f.mo (fun a k q => .inr (by omega))).tr (Fz.i (.inr (by omega)))).tr (Fz.i (.inl scA))
        -- the reference copies
        obtain ⟨h2, h2e⟩ : ∃ h2, h2 = pI (pI hc 195 0 (nI 0)) 200 s.length (nI l.length) := ⟨_, rfl⟩
        have g2 : SG h2 := by rw [h2e]; exact gc.i.i
        have F2 : Fz (fun a k => SCR m a k ∨ a = 129 + 2 * s.length ∨ a = 129 + 2 * s.length + 1 ∨ a = 1 ∧ k = 14 ∨ a = 200 ∨ a = 201 ∨ a = 195 ∧ k = 18) h h2 := by
          rw [h2e]
          exact (Fc.tr (Fz.i (.inl sc0))).tr (Fz.i (.inr (by omega)))
        have f2 := i.f.fz F2 (fun a k q c => c.elim (sF_ q) (fun c => by omega))
        have k18 : xI h2 195 18 = nI s.length := by rw [h2e, xI_ne (by omega), xI_ne (by omega), hce, xI_ne (by omega), xI_ne (by omega), F1.I _ (by omega)]; exact i.k.m
        obtain ⟨h3, ⟨F3, o3, v3⟩, e3⟩ := loopE (F := fun n k h' => X15_keep_B61 n 195 (nI k) h') (E := fun h' => X15_keep_B95 195 h') l.length (fun k h' => Fr (fun x => x = 201) h2 h' ∧ (∀ j, ¬ (6 * s.length ≤ j ∧ j < 6 * s.length + 6) → xI h' 201 j = xI h2 201 j) ∧ ∀ j, j < k → xI h' 201 (6 * s.length + j) = nI (l.getD j 0)) (Nat.zero_le _) (by omega) (h := h2) ⟨Fr.rf, fun _ _ => rfl, fun j hj => absurd hj (Nat.not_lt_zero _)⟩
          (by
            rintro n k h' hk' ⟨F, o, v⟩
            have g' := g2.fr F
            have hkn : ¬ l.length ≤ k := by omega
            have fk := f2.f k hk'
            rw [Nat.zero_add] at fk
            have z1 : xI h' 195 16 = nI l.length := by rw [F.I _ (by decide)]; exact f2.m
            have z2 : xI h' 195 18 = nI s.length := by rw [F.I _ (by decide)]; exact k18
            have z3 : xI h' 199 k = nI (l.getD k 0) := by rw [F.I _ (by decide)]; exact fk
            simp (disch := omega) only [X15_keep_B61, LT_e, G_T, BN_ok, if_true, if_false, nI_add, pk_mul, G_gx, nI_cl, nI_lI, nI_tI, nI_eI, g'.c195, z1, hkn, g'.r195_20, g'.c199, g'.z199, g'.r195_22, g'.c201, g'.z201, z2, z3]
            refine ⟨_, ⟨F.tr (Fr.i rfl), fun j hj => ?_, fun j hj => ?_⟩, rfl⟩
            · rw [xI_ne (by omega)]; exact o j hj
            · by_cases e : j = k
              · subst e; exact xI_self
              · rw [xI_ne (by omega)]; exact v j (by omega))
          (by
            rintro n h' ⟨F, o, v⟩
            have g' := g2.fr F
            have z1 : xI h' 195 16 = nI l.length := by rw [F.I _ (by decide)]; exact f2.m
            simp (disch := omega) only [X15_keep_B61, LT_e, G_T, BN_ok, if_true, if_false, nI_add, pk_mul, G_gx, nI_cl, nI_lI, nI_tI, nI_eI, g'.c195, z1, Nat.le_refl])
        have g3 := g2.fr F3
        have k3 : xI h3 195 18 = nI s.length := by rw [F3.I _ (by decide)]; exact k18
        obtain ⟨h4, h4e⟩ : ∃ h4, h4 = pI (pI (pI h3 195 18 (nI (s.length + 1))) 195 1 (nI 0)) 195 2 (-1) := ⟨_, rfl⟩
        have F : Fz (fun a k => SCR m a k ∨ a = 129 + 2 * s.length ∨ a = 129 + 2 * s.length + 1 ∨ a = 1 ∧ k = 14 ∨ a = 200 ∨ a = 201 ∨ a = 195 ∧ k = 18) h h4 := by
          rw [h4e]
          exact (((F2.tr (F3.q.f.mo (fun a k q => .inr (by omega)))).tr (Fz.i (.inr (by omega)))).tr (Fz.i (.inl sc1))).tr (Fz.i (.inl sc2))
        -- from the class's end to the end
        have Fx : Fz (fun a k => a = 1 ∨ a = 195 ∨ a = 200 ∨ a = 201) h1 h4 := by
          rw [h4e]
          refine ((Fz.tr ?_ (F3.q.f.mo (fun a k q => by omega))).tr (Fz.i (by omega))).tr (Fz.i (by omega)) |>.tr (Fz.i (by omega))
          rw [h2e, hce]
          exact (((Fz.i (by omega)).tr (Fz.i (by omega))).tr (Fz.i (by omega))).tr (Fz.i (by omega))
        refine ⟨nI (s.length + 1), hc, h4, ?_, gc.c195, ?_, ⟨true, p, b, m, z, l, lm, s ++ [l], r, lo, lx, ?_⟩, by rw [F.n]; omega, by rw [F.s]; omega⟩
        · have c1 : xI h1 1 14 = nI s.length := by rw [F1.I _ (by omega)]; exact i.k.c
          unfold X11_keep_f
          rw [G_t i.g.c1, i.q.hb, if_neg (by decide), G_t i.g.c1, i.g.r1_3, G_t i.g.c120, i.f.n.s, if_neg l0, G_t i.g.c1, i.k.c, if_neg s8, G_t i.g.c1, i.g.r1_7, G_t i.g.c128, i.g.z128, G_gx (by omega) (by omega), nI_cl (by omega), kr, G_t ku.1, e1, BN_ok, G_t g1.c1, c1, nI_add, LT_e, G_t g1.i.c1, xI_self, grant_c g1.i, BN_ok, hce]
        · have m16' : xI (pI hc 195 0 (nI 0)) 195 16 = nI l.length := by rw [xI_ne (by omega), hce, xI_ne (by omega), xI_ne (by omega), F1.I _ (by omega)]; exact i.f.m
          have m18' : xI (pI hc 195 0 (nI 0)) 195 18 = nI s.length := by rw [xI_ne (by omega), hce, xI_ne (by omega), xI_ne (by omega), F1.I _ (by omega)]; exact i.k.m
          have hr2 : ¬ xR (pI hc 195 0 (nI 0)) 195 4 = 0 := by rw [xR_pI, Fc.r _ (by decide)]; exact hr
          have e4 : X15_keep_B61 FU 195 (nI 0) h2 = X15_keep_B95 195 h3 := e3
          unfold X15_keep_f
          rw [G_t gc.c195, LT_e, G_t gc.i.c195, if_neg hr2, G_t gc.i.c195, m16', if_neg l0, G_t gc.i.c195, m18', if_neg s8, G_t gc.i.c195, gc.i.r195_21, G_t gc.i.c200, gc.i.z200, G_gx (by omega) (by omega), nI_cl (by omega), LT_e, ← h2e, e4]
          unfold X15_keep_B95
          rw [G_t g3.c195, k3, nI_add, LT_e, G_t g3.i.c195, xI_self, done_m g3.i, BN_ok, h4e]
        · have newk : gK_ h4 (s ++ [l]) := by
            have sl : (s ++ [l]).length = s.length + 1 := by rw [List.length_append]; rfl
            refine ⟨?_, ?_, by rw [sl]; omega, fun j hj => ?_, fun j hj => ?_, fun j hj => ?_, fun q hq => ?_⟩
            · rw [sl, h4e, xI_ne (by omega), xI_ne (by omega), xI_ne (by omega), F3.I _ (by decide), h2e, xI_ne (by omega), xI_ne (by omega), hce, xI_ne (by omega), xI_self]
            · rw [sl, h4e, xI_ne (by omega), xI_ne (by omega), xI_self]
            · rw [sl] at hj
              rw [getD_app2 (by omega)]
              by_cases e : j < s.length
              · rw [if_pos e]
                exact (i.k.n j e).fz F (by omega) (fun c => c.elim (sK_ (by omega)) (fun c => by omega)) (fun k c => c.elim (sK_ (by omega)) (fun c => by omega))
              · rw [if_neg e, show j = s.length by omega]
                exact n1.fz Fx (by omega) (by omega) (fun k => by omega)
            · rw [sl] at hj
              rw [getD_app2 (by omega), h4e, xI_ne (by omega), xI_ne (by omega), xI_ne (by omega), F3.I _ (by decide), h2e]
              by_cases e : j < s.length
              · rw [if_pos e, xI_ne (by omega), xI_ne (by omega), hce, xI_ne (by omega), xI_ne (by omega), F1.I _ (by omega)]; exact i.k.k j e
              · rw [if_neg e, show j = s.length by omega, xI_self]
            · rw [sl] at hj
              rw [getD_app2 (by omega)]
              intro jj hjj
              rw [h4e, xI_ne (by omega), xI_ne (by omega), xI_ne (by omega)]
              by_cases e : j < s.length
              · rw [if_pos e] at hjj ⊢
                have h6 := (i.k.n j e).n
                rw [o3 _ (by omega), h2e, xI_ne (by omega), xI_ne (by omega), hce, xI_ne (by omega), xI_ne (by omega), F1.I _ (by omega)]
                exact i.k.f j e jj hjj
              · rw [if_neg e] at hjj ⊢
                rw [show j = s.length by omega]
                exact v3 jj hjj
            · rw [List.mem_append, List.mem_singleton] at hq
              rcases hq with hq | hq
              · exact i.k.o q hq
              · rw [hq]; exact i.f.o
          refine ⟨i.g.fz F, i.t.fz F (fun a k q c => c.elim (sT_ q) (fun c => by omega)), i.q.fz F (fun a k q c => c.elim (sG_ q) (fun c => by omega)), i.b.fz F (fun a k q c => c.elim (sB_ q) (fun c => by omega)) i.bb, i.f.fz F (fun a k q c => c.elim (sF_ q) (fun c => by omega)), i.m.fz F (fun a k q c => c.elim (sM_ q) (fun c => by omega)), newk, i.u.fz F (fun a k q c => c.elim (sU_ q) (fun c => by omega)), i.r.fz F (fun a k q c => c.elim (sR_ q) (fun c => by omega)), i.o.fz F (fun a k q c => c.elim (sO_ q) (fun c => by omega)), i.e.fz F (fun a k q c => c.elim (sE_ q) (fun c => by omega)), i.z.fz F (fun a k q c => c.elim (sZ_ q) (fun c => by omega)), (fun e => nomatch e), i.fm.fz F, ?_⟩
          rw [h4e]
          refine Sts_fin n4_0 ?_
          rw [xI_ne (by omega), F3.I _ (by decide), h2e, xI_ne (by omega), xI_ne (by omega), hce, xI_self]
