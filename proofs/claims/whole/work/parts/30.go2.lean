/-- the run so far: ticks ahead of t, and machines ahead of m in t -/
def GI (h h' : AH) (L : Nat) (p : PR) (t m : Nat) : Prop := (Fr (fun a => 174 ≤ a ∧ a ≤ 179) h h') ∧ (∀ j, j < 64 → ∀ u n r, ((u < t ∧ n < p.1 0 0) ∨ (u = t ∧ n < m)) → r < p.1 1 0 → TVb h' j u n r = Tz p (laf h L j) u n r) ∧ (∀ j, j < 64 → ∀ u n r, u ≤ pl p → n < p.1 0 0 → r < p.1 1 0 → tl (xL h' 176 ((u * 4 + n) * 10 + r)) j = (List.range (p.1 4 0)).any fun s => p.1 12 (10 + s) == n && p.1 10 (10 + s) == r && (List.range t).any fun v => cmB p (laf h L j) (Tz p (laf h L j)) s v u) ∧ (∀ j, j < 64 → ∀ n r, n < p.1 0 0 → r < p.1 1 0 → tl (xL h' 177 (n * 10 + r)) j = kpB (laf h L j) (Tz p (laf h L j)) (if n < m then t + 1 else t) n r) ∧ (∀ j, j < 64 → ∀ s, s < p.1 4 0 → tl (xL h' 178 s) j = (decide (0 < t) && hB p (laf h L j) (Tz p (laf h L j)) s (t - 1))) ∧ (∀ j, j < 64 → ∀ s u, s < p.1 4 0 → u < t → u < pl p → tl (xL h' 179 (s * 7 + u)) j = sntB p (laf h L j) (Tz p (laf h L j)) s u)
theorem GI.F {h h' : AH} {L : Nat} {p : PR} {t m : Nat} (q_ : GI h h' L p t m) : Fr (fun a => 174 ≤ a ∧ a ≤ 179) h h' := q_.1
theorem GI.T {h h' : AH} {L : Nat} {p : PR} {t m : Nat} (q_ : GI h h' L p t m) : ∀ j, j < 64 → ∀ u n r, ((u < t ∧ n < p.1 0 0) ∨ (u = t ∧ n < m)) → r < p.1 1 0 → TVb h' j u n r = Tz p (laf h L j) u n r := q_.2.1
theorem GI.a {h h' : AH} {L : Nat} {p : PR} {t m : Nat} (q_ : GI h h' L p t m) : ∀ j, j < 64 → ∀ u n r, u ≤ pl p → n < p.1 0 0 → r < p.1 1 0 → tl (xL h' 176 ((u * 4 + n) * 10 + r)) j = (List.range (p.1 4 0)).any fun s => p.1 12 (10 + s) == n && p.1 10 (10 + s) == r && (List.range t).any fun v => cmB p (laf h L j) (Tz p (laf h L j)) s v u := q_.2.2.1
theorem GI.c {h h' : AH} {L : Nat} {p : PR} {t m : Nat} (q_ : GI h h' L p t m) : ∀ j, j < 64 → ∀ n r, n < p.1 0 0 → r < p.1 1 0 → tl (xL h' 177 (n * 10 + r)) j = kpB (laf h L j) (Tz p (laf h L j)) (if n < m then t + 1 else t) n r := q_.2.2.2.1
theorem GI.b {h h' : AH} {L : Nat} {p : PR} {t m : Nat} (q_ : GI h h' L p t m) : ∀ j, j < 64 → ∀ s, s < p.1 4 0 → tl (xL h' 178 s) j = (decide (0 < t) && hB p (laf h L j) (Tz p (laf h L j)) s (t - 1)) := q_.2.2.2.2.1
theorem GI.s {h h' : AH} {L : Nat} {p : PR} {t m : Nat} (q_ : GI h h' L p t m) : ∀ j, j < 64 → ∀ s u, s < p.1 4 0 → u < t → u < pl p → tl (xL h' 179 (s * 7 + u)) j = sntB p (laf h L j) (Tz p (laf h L j)) s u := q_.2.2.2.2.2
/-- the words of tick t are sent, of sends ahead of s -/
def SI (h h' : AH) (L : Nat) (p : PR) (t q : Nat) : Prop := (Fr (fun a => 174 ≤ a ∧ a ≤ 179) h h') ∧ (∀ j, j < 64 → ∀ u n r, u ≤ t → n < p.1 0 0 → r < p.1 1 0 → TVb h' j u n r = Tz p (laf h L j) u n r) ∧ (∀ j, j < 64 → ∀ u n r, u ≤ pl p → n < p.1 0 0 → r < p.1 1 0 → tl (xL h' 176 ((u * 4 + n) * 10 + r)) j = (List.range (p.1 4 0)).any fun s => p.1 12 (10 + s) == n && p.1 10 (10 + s) == r && (List.range (if s < q then t + 1 else t)).any fun v => cmB p (laf h L j) (Tz p (laf h L j)) s v u) ∧ (∀ j, j < 64 → ∀ n r, n < p.1 0 0 → r < p.1 1 0 → tl (xL h' 177 (n * 10 + r)) j = kpB (laf h L j) (Tz p (laf h L j)) (t + 1) n r) ∧ (∀ j, j < 64 → ∀ s, s < p.1 4 0 → tl (xL h' 178 s) j = if s < q then hB p (laf h L j) (Tz p (laf h L j)) s t else (decide (0 < t) && hB p (laf h L j) (Tz p (laf h L j)) s (t - 1))) ∧ (∀ j, j < 64 → ∀ s u, s < p.1 4 0 → (u < t ∨ (u = t ∧ s < q)) → u < pl p → tl (xL h' 179 (s * 7 + u)) j = sntB p (laf h L j) (Tz p (laf h L j)) s u)
theorem SI.F {h h' : AH} {L : Nat} {p : PR} {t q : Nat} (q_ : SI h h' L p t q) : Fr (fun a => 174 ≤ a ∧ a ≤ 179) h h' := q_.1
theorem SI.T {h h' : AH} {L : Nat} {p : PR} {t q : Nat} (q_ : SI h h' L p t q) : ∀ j, j < 64 → ∀ u n r, u ≤ t → n < p.1 0 0 → r < p.1 1 0 → TVb h' j u n r = Tz p (laf h L j) u n r := q_.2.1
theorem SI.a {h h' : AH} {L : Nat} {p : PR} {t q : Nat} (q_ : SI h h' L p t q) : ∀ j, j < 64 → ∀ u n r, u ≤ pl p → n < p.1 0 0 → r < p.1 1 0 → tl (xL h' 176 ((u * 4 + n) * 10 + r)) j = (List.range (p.1 4 0)).any fun s => p.1 12 (10 + s) == n && p.1 10 (10 + s) == r && (List.range (if s < q then t + 1 else t)).any fun v => cmB p (laf h L j) (Tz p (laf h L j)) s v u := q_.2.2.1
theorem SI.c {h h' : AH} {L : Nat} {p : PR} {t q : Nat} (q_ : SI h h' L p t q) : ∀ j, j < 64 → ∀ n r, n < p.1 0 0 → r < p.1 1 0 → tl (xL h' 177 (n * 10 + r)) j = kpB (laf h L j) (Tz p (laf h L j)) (t + 1) n r := q_.2.2.2.1
theorem SI.b {h h' : AH} {L : Nat} {p : PR} {t q : Nat} (q_ : SI h h' L p t q) : ∀ j, j < 64 → ∀ s, s < p.1 4 0 → tl (xL h' 178 s) j = if s < q then hB p (laf h L j) (Tz p (laf h L j)) s t else (decide (0 < t) && hB p (laf h L j) (Tz p (laf h L j)) s (t - 1)) := q_.2.2.2.2.1
theorem SI.s {h h' : AH} {L : Nat} {p : PR} {t q : Nat} (q_ : SI h h' L p t q) : ∀ j, j < 64 → ∀ s u, s < p.1 4 0 → (u < t ∨ (u = t ∧ s < q)) → u < pl p → tl (xL h' 179 (s * 7 + u)) j = sntB p (laf h L j) (Tz p (laf h L j)) s u := q_.2.2.2.2.2
theorem GI_SI {h h' : AH} {L t m : Nat} {p : PR} (hm : p.1 0 0 ≤ m) (g : GI h h' L p t m) : SI h h' L p t 0 := by
  refine ⟨g.F, fun j hj u n r hu hn hr => g.T j hj u n r (by omega) hr, fun j hj u n r hu hn hr => ?_, fun j hj n r hn hr => ?_, fun j hj s hs => ?_, fun j hj s u hs hu hl => g.s j hj s u hs (by omega) hl⟩
  · rw [g.a j hj u n r hu hn hr]; simp
  · rw [g.c j hj n r hn hr, if_pos (by omega)]
  · rw [g.b j hj s hs, if_neg (by omega)]
theorem SI_GI {h h' : AH} {L t : Nat} {p : PR} (g : SI h h' L p t (p.1 4 0)) : GI h h' L p (t + 1) 0 := by
  refine ⟨g.F, fun j hj u n r hu hr => g.T j hj u n r (by omega) (by omega) hr, fun j hj u n r hu hn hr => ?_, fun j hj n r hn hr => ?_, fun j hj s hs => ?_, fun j hj s u hs hu hl => g.s j hj s u hs (by omega) hl⟩
  · rw [g.a j hj u n r hu hn hr]
    apply any_congr
    intro s hs
    rw [if_pos (List.mem_range.mp hs)]
  · rw [g.c j hj n r hn hr, if_neg (by omega)]
  · rw [g.b j hj s hs, if_pos hs, decide_eq_true (by omega), Nat.add_sub_cancel]; rfl
theorem GI_fill {h h' : AH} {wk b L t m : Nat} {p : PR} (C : CoX h wk b L p) (ht : t ≤ pl p) (hm : m < p.1 0 0) (g : GI h h' L p t m) : ∃ h2, X2_fill_f 174 (nI m) (nI t) h' = some ((), h2) ∧ GI h h2 L p t (m + 1) := by
  have hx := C.x
  have hL := C.l.w
  have wm := C.q.w.m
  have wr := C.q.w.r
  have C' := C.fr g.F (by intro a q; omega)
  have Lh : ∀ j, laf h' L j = laf h L j := laf_fr g.F (by omega) (by omega) (by omega)
  obtain ⟨h2, e, F, o1, o2, val⟩ := fill_ok C' hm (by omega : t ≤ 6)
  have key : ∀ j, j < 64 → ∀ r, r < p.1 1 0 → TVb h2 j t m r = Tz p (laf h L j) t m r := by
    intro j hj r hr
    rw [(val j hj r hr).1, Tz_eq, Lh]
    congr 1
    apply clo_congr (fun i hi => C.q.w.ru i hi) _ _ _ _ r hr
    intro r hr
    unfold preB
    have e1 : nxB p (laf h L j) (TVb h' j) t m r = nxB p (laf h L j) (Tz p (laf h L j)) t m r := by
      unfold nxB
      by_cases h0 : 0 < t
      · congr 1
        apply any_congr
        intro i hi
        have hi := List.mem_range.mp hi
        rw [cH_congr (C.q.w.ru i hi) (Y := Tz p (laf h L j) (t - 1) m) (fun r hr => g.T j hj _ _ _ (by omega) hr)]
      · simp [h0]
    rw [g.a j hj t m r ht hm hr, g.c j hj m r hm hr, if_neg (by omega), e1]
    rfl
  refine ⟨h2, e, g.F.tr (F.mo (fun a q => by omega)), fun j hj u n r hu hr => ?_, fun j hj u n r hu hn hr => ?_, fun j hj n r hn hr => ?_, fun j hj s hs => ?_, fun j hj s u hs hu hl => ?_⟩
  · by_cases e1 : u = t ∧ n = m
    · rw [e1.1, e1.2]; exact key j hj r hr
    · rw [← g.T j hj u n r (by omega) hr]
      unfold TVb
      rw [o1 _ (by omega)]
  · rw [F.L _ (by decide)]; exact g.a j hj u n r hu hn hr
  · by_cases e1 : n = m
    · subst e1
      have e2 := g.c j hj n r hn hr
      rw [if_neg (by omega)] at e2
      rw [show (if n < n + 1 then t + 1 else t) = t + 1 from if_pos (by omega), (val j hj r hr).2, kpB_succ, Lh, key j hj r hr, e2]
    · rw [o2 _ (by omega), g.c j hj n r hn hr]
      by_cases e2 : n < m
      · rw [if_pos e2, if_pos (by omega)]
      · rw [if_neg e2, if_neg (by omega)]
  · rw [F.L _ (by decide)]; exact g.b j hj s hs
  · rw [F.L _ (by decide)]; exact g.s j hj s u hs hu hl
theorem SI_send {h h' : AH} {wk b L t q : Nat} {p : PR} (C : CoX h wk b L p) (ht : t < pl p) (hq : q < p.1 4 0) (g : SI h h' L p t q) : ∃ h2, X2_sendWords_f 174 (nI q) (nI t) h' = some ((), h2) ∧ SI h h2 L p t (q + 1) := by
  have hx := C.x
  have hL := C.l.w
  have wm := C.q.w.m
  have wr := C.q.w.r
  have ws := C.q.w.s
  have w := C.q.w.se q hq
  have w1 := w.row
  have w2 := w.pl
  have w3 := C.q.w.sp q hq
  have w4 := C.q.w.st q hq
  have C' := C.fr g.F (by intro a q; omega)
  have Lh : ∀ j, laf h' L j = laf h L j := laf_fr g.F (by omega) (by omega) (by omega)
  obtain ⟨h2, e, F, o1, o2, val⟩ := sendWords_ok C' hq ht
  have hb : ∀ j, j < 64 → hB p (laf h L j) (TVb h' j) q t = hB p (laf h L j) (Tz p (laf h L j)) q t := fun j hj => hB_cg w (fun r hr => g.T j hj t _ r (Nat.le_refl t) (by omega) hr)
  have sn : ∀ j, j < 64 → (hB p (laf h' L j) (TVb h' j) q t || (bt (pA p) q && tl (xL h' 178 q) j && !fD (laf h' L j) (p.1 11 (10 + q) - 1) t)) = sntB p (laf h L j) (Tz p (laf h L j)) q t := by
    intro j hj
    rw [Lh, hb j hj, g.b j hj q hq, if_neg (by omega)]
    unfold sntB
    simp only [Bool.and_assoc]
  refine ⟨h2, e, g.F.tr (F.mo (fun a q => by omega)), fun j hj u n r hu hn hr => ?_, fun j hj u n r hu hn hr => ?_, fun j hj n r hn hr => ?_, fun j hj s hs => ?_, fun j hj s u hs hu hl => ?_⟩
  · rw [← g.T j hj u n r hu hn hr]
    unfold TVb
    rw [F.L _ (by decide)]
  · rw [(val j hj).2.2, sn j hj, g.a j hj u n r hu hn hr, Lh]
    symm
    rw [any_upd hq (g := fun s => p.1 12 (10 + s) == n && p.1 10 (10 + s) == r && (List.range (if s < q then t + 1 else t)).any fun v => cmB p (laf h L j) (Tz p (laf h L j)) s v u) (x := p.1 12 (10 + q) == n && p.1 10 (10 + q) == r && cmB p (laf h L j) (Tz p (laf h L j)) q t u)]
    · congr 1
      unfold cmB
      by_cases e1 : t + (if fA (laf h L j) q t = true then 3 else 1) ≤ pl p ∧ (u * 4 + n) * 10 + r = ((t + (if fA (laf h L j) q t = true then 3 else 1)) * 4 + p.1 12 (10 + q)) * 10 + p.1 10 (10 + q)
      · rw [decide_eq_true e1]
        have e2 : p.1 12 (10 + q) = n ∧ p.1 10 (10 + q) = r ∧ t + (if fA (laf h L j) q t = true then 3 else 1) = u := by omega
        simp [e2.1, e2.2.1, e2.2.2]
      · rw [decide_eq_false e1]
        by_cases e2 : p.1 12 (10 + q) = n
        · by_cases e3 : p.1 10 (10 + q) = r
          · have e4 : ¬ (t + (if fA (laf h L j) q t = true then 3 else 1) = u) := by omega
            have e5 : (t + (if fA (laf h L j) q t = true then 3 else 1) == u) = false := by simpa using e4
            rw [e5]; simp
          · have : (p.1 10 (10 + q) == r) = false := by simpa using e3
            rw [this]; simp
        · have : (p.1 12 (10 + q) == n) = false := by simpa using e2
          rw [this]; simp
    · intro i hi hne
      by_cases e2 : i < q
      · rw [if_pos e2, if_pos (by omega)]
      · rw [if_neg e2, if_neg (by omega)]
    · rw [if_pos (by omega), if_neg (by omega), rany_succ, Bool.and_or_distrib_left]
  · rw [F.L _ (by decide)]; exact g.c j hj n r hn hr
  · by_cases e1 : s = q
    · subst e1
      rw [(val j hj).1, Lh, hb j hj, if_pos (by omega)]
    · rw [o1 s e1, g.b j hj s hs]
      by_cases e2 : s < q
      · rw [if_pos e2, if_pos (by omega)]
      · rw [if_neg e2, if_neg (by omega)]
  · by_cases e1 : u = t ∧ s = q
    · rw [e1.1, e1.2, (val j hj).2.1, sn j hj]
    · rw [o2 _ (by omega)]; exact g.s j hj s u hs (by omega) hl
