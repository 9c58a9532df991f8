/-- the places of a promise: row, machine -/
abbrev PlL : Type := List (Nat × Nat)
def plG (l : PlL) (i : Nat) : Nat × Nat := l.getD i (0, 0)
theorem plG_l {l : PlL} {x : Nat × Nat} {i : Nat} (h : i < l.length) : plG (l ++ [x]) i = plG l i := by
  unfold plG
  rw [List.getD_eq_getElem?_getD, List.getD_eq_getElem?_getD, List.getElem?_append_left h]
theorem plG_r {l : PlL} {x : Nat × Nat} : plG (l ++ [x]) l.length = x := by
  unfold plG
  rw [List.getD_eq_getElem?_getD, List.getElem?_append_right (Nat.le_refl _), Nat.sub_self]
  rfl
/-- one place at q, the rest x -/
def plY (T : Nat → Int32) (n : Nat) (N : NmL) (s q : Nat) (x : Nat × Nat × PlL) : Nat × Nat × PlL :=
  if faR T n N q = 0 then
    if faW T n (nxT T n q) 1 = 0 then
      if faM T n N (nxT T n (nxT T n q)) = 0 then
        if isW T n (nxT T n (nxT T n (nxT T n q))) s = true then (x.1, x.2.1, (lkV N (wdV T n q) - 4, lkV N (wdV T n (nxT T n (nxT T n q)))) :: x.2.2)
        else (0, nxT T n (nxT T n (nxT T n q)), [(lkV N (wdV T n q) - 4, lkV N (wdV T n (nxT T n (nxT T n q))))])
      else (faM T n N (nxT T n (nxT T n q)), nxT T n (nxT T n q), [])
    else (faW T n (nxT T n q) 1, nxT T n q, [])
  else (faR T n N q, q, [])
def plX (T : Nat → Int32) (n : Nat) (N : NmL) (s : Nat) : Nat → Nat → Nat × Nat × PlL
  | 0, q => if faR T n N q = 0 then (5, q, []) else (faR T n N q, q, [])
  | r + 1, q => plY T n N s q (plX T n N s r (nxT T n (nxT T n (nxT T n (nxT T n q)))))
def PlC (h : AH) (a : Nat) (l : PlL) : Prop := ∀ i, i < l.length → xI h a i = nI ((plG l i).2 * 10 + (plG l i).1)
def PcA (a : Nat) : Nat → Nat → Prop := fun x k => FlA x k ∨ x = a
def PlO (h h' : AH) (T : Nat → Int32) (n a : Nat) (l : PlL) (w : Int32) (x : Nat × Nat × PlL) : Prop := Fz (PcA a) h h' ∧ CfC h' T n ∧ CtC h' T n x.2.1 ∧ (x.1 = 0 → w = nI (l ++ x.2.2).length ∧ PlC h' a (l ++ x.2.2)) ∧ (x.1 ≠ 0 → w = -1 ∧ xI h' 58 9 = nI x.1)
theorem places_c {T : Nat → Int32} {n a s : Nat} {N : NmL} (hs : s < 17) (ha : 2 ≤ a ∧ a < 58 ∨ 63 ≤ a ∧ a < 119) : ∀ r i l h p f, i + r = 3 → l.length = i → r < f → CfC h T n → CtC h T n p → NmC h N → xc h a = 16 → xz h a = 3 → PlC h a l → ∃ w h', X6_readPlaces_B2 f 58 a s (nI i) h = some (w, h') ∧ PlO h h' T n a l w (plX T n N s r (nxT T n p)) := by
  have mF : ∀ x k, FlA x k → PcA a x k := fun x k q => .inl q
  intro r
  induction r with
  | zero =>
    intro i l h p f hi hl hf c t u xa za v
    obtain ⟨f, rfl⟩ : ∃ g, f = g + 1 := ⟨f - 1, by omega⟩
    obtain ⟨h1, e1, F1, c1, t1⟩ := step_c c (tkA_b t.x).2 t.f
    have G1 := F1.mo (fun a k => StA_Fl)
    have t1' : CtC h1 T n (nxT T n p) := t1
    clear t1
    generalize nxT T n p = q at *
    obtain ⟨w, h2, e2, F2, c2, t2, x2, y2⟩ := rowHere_c c1 t1' (u.fz G1 (fun a k => flN))
    rw [X6_readPlaces_B2, if_neg (by rw [nI_tI (by omega) (by omega)]; omega), G_t c.g.c58, e1, BN_ok, G_t c1.g.c58, e2, BN_ok]
    unfold plX
    by_cases z : faR T n N q = 0
    · obtain ⟨w2, a2, b2⟩ := x2 z
      obtain ⟨h3, e3, F3, c3, t3, w3⟩ := flawed_c (v := nI 5) c2 t2
      rw [if_pos z, w2, if_neg (nI_nm (by omega)), if_pos (by rw [nI_lI (by omega) (by omega)]; omega)]
      unfold X6_readPlaces_B36
      rw [G_t c2.g.c58, e3, BN_ok]
      exact ⟨_, _, rfl, ((G1.tr F2).tr F3).mo mF, c3, t3, fun z => absurd z (by show ¬ (5 : Nat) = 0; decide), fun _ => ⟨rfl, w3⟩⟩
    · obtain ⟨w2, y2⟩ := y2 z
      rw [if_neg z, w2, if_pos rfl]
      exact ⟨_, _, rfl, (G1.tr F2).mo mF, c2, t2, fun y => absurd y z, fun _ => ⟨rfl, y2⟩⟩
  | succ r ih =>
    intro i l h p f hi hl hf c t u xa za v
    obtain ⟨f, rfl⟩ : ∃ g, f = g + 1 := ⟨f - 1, by omega⟩
    obtain ⟨h1, e1, F1, c1, t1⟩ := step_c c (tkA_b t.x).2 t.f
    have G1 := F1.mo (fun a k => StA_Fl)
    have t1' : CtC h1 T n (nxT T n p) := t1
    clear t1
    generalize nxT T n p = q at *
    have u1 := u.fz G1 (fun a k => flN)
    obtain ⟨w, h2, e2, F2, c2, t2, x2, y2⟩ := rowHere_c c1 t1' u1
    have u2 := u1.fz F2 (fun a k => flN)
    have Fa := G1.tr F2
    rw [X6_readPlaces_B2, if_neg (by rw [nI_tI (by omega) (by omega)]; omega), G_t c.g.c58, e1, BN_ok, G_t c1.g.c58, e2, BN_ok]
    unfold plX plY
    by_cases z : faR T n N q = 0
    · obtain ⟨w2, a2, b2⟩ := x2 z
      obtain ⟨w3', h3, e3, F3, c3, t3, x3, y3⟩ := stepTo_c c2 t2 (show 1 < 17 by decide)
      have u3 := u2.fz F3 (fun a k => flN)
      have Fb := Fa.tr F3
      rw [if_pos z, w2, if_neg (nI_nm (by omega)), if_neg (by rw [nI_lI (by omega) (by omega)]; omega), G_t (by rw [Fa.c]; exact xa), Fa.z, za, if_pos (by rw [nI_tI (by omega) (by omega)]; omega), G_t c2.g.c58, e3, BN_ok]
      by_cases y : faW T n (nxT T n q) 1 = 0
      · obtain ⟨w4', h4, e4, F4, c4, t4, x4, y4⟩ := stepToMachine_c c3 t3 u3
        have u4 := u3.fz F4 (fun a k => flN)
        have Fc := Fb.tr F4
        rw [if_pos y, x3 y, if_neg (by decide), G_t c3.g.c58, e4, BN_ok]
        unfold X6_readPlaces_B61
        by_cases m : faM T n N (nxT T n (nxT T n q)) = 0
        · obtain ⟨w4, a4⟩ := x4 m
          rw [if_pos m, w4, if_neg (nI_nm (by omega)), G_t (by rw [Fc.c]; exact xa), Fc.z, za, G_gx (by omega) (by omega), nI_cl (by omega), pk_mul, nI_add, LT_e]
          obtain ⟨h5, h5e⟩ : ∃ h5, h5 = pI h4 a i (nI (lkV N (wdV T n (nxT T n (nxT T n q))) * 10 + (lkV N (wdV T n q) - 4))) := ⟨_, rfl⟩
          have F5 : Fz (fun x k => x = a) h4 h5 := by rw [h5e]; exact Fz.i rfl
          have c5 := c4.fz F5 (fun x k q => by omega)
          have t5 := t4.fz F5 (fun x k q => by omega)
          have u5 := u4.fz F5 (fun x k q => by omega)
          have v5 : PlC h5 a (l ++ [(lkV N (wdV T n q) - 4, lkV N (wdV T n (nxT T n (nxT T n q))))]) := fun j hj => by
            rw [List.length_append] at hj
            have hj : j < l.length + 1 := hj
            by_cases o : j = l.length
            · rw [o, plG_r, h5e, hl, xI_self]
            · rw [plG_l (by omega), h5e, xI_ne (by omega), Fc.I (by unfold FlA; omega)]; exact v j (by omega)
          obtain ⟨h6, e6, F6, c6, t6⟩ := step_c c5 (tkA_b t5.x).2 t5.f
          have G6 := F6.mo (fun a k => StA_Fl)
          have t6' : CtC h6 T n (nxT T n (nxT T n (nxT T n q))) := t6
          have v6 : PlC h6 a (l ++ [(lkV N (wdV T n q) - 4, lkV N (wdV T n (nxT T n (nxT T n q))))]) := fun j hj => by rw [G6.I (by unfold FlA; omega)]; exact v5 j hj
          have Fd : Fz (PcA a) h h6 := ((Fc.mo mF).tr (F5.mo (fun x k q => .inr q))).tr (G6.mo mF)
          rw [← h5e, G_t c5.g.c58, e6, BN_ok, G_t c6.g.c58, spells_c c6 t6' hs, BN_ok, ifB]
          by_cases o : isW T n (nxT T n (nxT T n (nxT T n q))) s = true
          · rw [if_pos o, if_pos o, nI_add, LT_e]
            obtain ⟨w7, h7, e7, F7, c7, t7, x7, y7⟩ := ih (i + 1) (l ++ [(lkV N (wdV T n q) - 4, lkV N (wdV T n (nxT T n (nxT T n q))))]) h6 (nxT T n (nxT T n (nxT T n q))) f (by omega) (by rw [List.length_append, hl]; rfl) (by omega) c6 t6' (u5.fz G6 (fun a k => flN)) (by rw [Fd.c]; exact xa) (by rw [Fd.z]; exact za) v6
            rw [e7]
            refine ⟨w7, h7, rfl, Fd.tr F7, c7, t7, fun g => ?_, y7⟩
            obtain ⟨g1, g2⟩ := x7 g
            rw [List.append_assoc] at g1 g2
            exact ⟨g1, g2⟩
          · rw [if_neg o, if_neg o]
            unfold X6_readPlaces_B94
            rw [nI_add]
            refine ⟨_, _, rfl, Fd, c6, t6', fun _ => ⟨?_, v6⟩, fun g => absurd rfl g⟩
            show nI (i + 1) = nI (l ++ [_]).length
            rw [List.length_append, hl]; rfl
        · obtain ⟨w4, y4⟩ := y4 m
          rw [if_neg m, w4, if_pos rfl]
          exact ⟨_, _, rfl, Fc.mo mF, c4, t4, fun g => absurd g m, fun _ => ⟨rfl, y4⟩⟩
      · obtain ⟨w3, y3⟩ := y3 y
        rw [if_neg y, w3, if_pos (by decide)]
        unfold X6_readPlaces_B61
        rw [if_pos rfl]
        exact ⟨_, _, rfl, Fb.mo mF, c3, t3, fun g => absurd g y, fun _ => ⟨rfl, y3⟩⟩
    · obtain ⟨w2, y2⟩ := y2 z
      rw [if_neg z, w2, if_pos rfl]
      exact ⟨_, _, rfl, Fa.mo mF, c2, t2, fun y => absurd y z, fun _ => ⟨rfl, y2⟩⟩
