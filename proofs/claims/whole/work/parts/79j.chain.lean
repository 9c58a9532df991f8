theorem fb_holes : ∀ (m n : Nat) (f : Nat → Nat), (∀ i, i < n → f i < m) → (∀ i j, i < j → j < n → f i ≠ f j) → n ≤ m := by
  intro m
  induction m with
  | zero =>
    intro n f h1 _
    rcases Nat.eq_zero_or_pos n with h | h
    · omega
    · exact absurd (h1 0 h) (Nat.not_lt_zero _)
  | succ m ih =>
    intro n f h1 h2
    by_cases hx : ∃ i, i < n ∧ f i = m
    · obtain ⟨a, ha, hfa⟩ := hx
      have hg := ih (n - 1) (fun i => if i < a then f i else f (i + 1)) (by
        intro i hi
        by_cases q : i < a
        · simp only [if_pos q]
          have b1 := h1 i (by omega)
          have b2 := h2 i a q ha
          omega
        · simp only [if_neg q]
          have b1 := h1 (i + 1) (by omega)
          have b2 := h2 a (i + 1) (by omega) (by omega)
          omega) (by
        intro i j hij hj
        by_cases q : i < a
        · by_cases r : j < a
          · simp only [if_pos q, if_pos r]
            exact h2 i j hij (by omega)
          · simp only [if_pos q, if_neg r]
            exact h2 i (j + 1) (by omega) (by omega)
        · have r : ¬ j < a := by omega
          simp only [if_neg q, if_neg r]
          exact h2 (i + 1) (j + 1) (by omega) (by omega))
      omega
    · have hg := ih n f (fun i hi => by
        have b1 := h1 i hi
        have b2 : f i ≠ m := fun e => hx ⟨i, hi, e⟩
        omega) h2
      omega
theorem cH_mon2 {B : BK} {c : Nat} {b : Bool} {X Y : Nat → Bool} (nn : ∀ k, k < B 14 c → B (40 + c) k = 0) (h : ∀ r, X r = true → Y r = true) (q : cH B c b X = true) : cH B c b Y = true := by
  unfold cH cHf at *
  rw [List.all_eq_true] at *
  intro i hi
  have := q i hi
  have hi := List.mem_range.mp hi
  rw [if_pos (nn _ (by omega))] at *
  exact h _ this
theorem pas_why {B : BK} {m : Nat} {X : Nat → Bool} {r : Nat} : ∀ k, pas B m X k r = true → X r = true ∨ ∃ j, j < k ∧ r = B 10 j ∧ B 13 j = 1 ∧ isF B j m = true ∧ cH B j false (pas B m X j) = true := by
  intro k
  induction k with
  | zero => exact fun h => .inl h
  | succ k ih =>
    intro h
    rw [pas] at h
    split at h
    · next c =>
      rw [Bool.or_eq_true] at h
      rcases h with h | h
      · rcases ih h with h | ⟨j, hj, q⟩
        · exact .inl h
        · exact .inr ⟨j, by omega, q⟩
      · exact .inr ⟨k, by omega, by simpa using h, c.1, c.2.1, c.2.2⟩
    · rcases ih h with h | ⟨j, hj, q⟩
      · exact .inl h
      · exact .inr ⟨j, by omega, q⟩
theorem clo_why {B : BK} {m r : Nat} (w : WB B) : ∀ n (X : Nat → Bool), clo B m n X r = true → X r = true ∨ ∃ j, j < B 3 0 ∧ r = B 10 j ∧ B 13 j = 1 ∧ isF B j m = true ∧ cH B j false (clo B m n X) = true := by
  intro n
  induction n with
  | zero => exact fun X h => .inl h
  | succ n ih =>
    intro X h
    rcases ih _ h with h | h
    · rcases pas_why _ h with h | ⟨j, hj, e, h1, h2, h3⟩
      · exact .inl h
      · exact .inr ⟨j, hj, e, h1, h2, cH_mon2 (w.nn j hj h1) (fun r hr => clo_le n _ (pas_up (B 3 0) (by omega) hr)) h3⟩
    · exact .inr h
section
variable {p : PR} {f : FL} {r m t : Nat}
theorem cm_cb {s u : Nat} (ht : t ≤ pl p) (d : fD f (p.1 12 (10 + s)) t = false) (h : cmB p f (Tz p f) s u t = true) : cbB p f s u t = true := by
  unfold cmB at h
  simp only [Bool.and_eq_true, beq_iff_eq, Bool.not_eq_true'] at h
  obtain ⟨⟨h1, h2⟩, h3⟩ := h
  unfold cbB stB
  rw [if_pos h1, if_neg (by rw [h2]; decide), h3, if_neg (by rw [d]; rintro (q | q); omega; exact absurd q (by decide))]
  cases e : fA f s u
  · rw [e, if_neg (by decide)] at h3
    simp [h3]
  · rw [e, if_pos rfl] at h3
    simp [h3]
theorem rsn_ne (w : WB p.1) (ht : t ≤ pl p) (e : Tz p f t m r = true) : ∃ v, v ∈ rsn p f r m t := by
  rw [Tz_eq, Bool.and_eq_true, Bool.not_eq_true'] at e
  obtain ⟨d, e⟩ := e
  have eT : Tz p f t m = clo p.1 m 10 (preB p f (Tz p f) t m) := funext fun r => by rw [Tz_eq, d]; rfl
  unfold rsn
  simp only [List.mem_append]
  rcases clo_why w _ _ e with h | ⟨j, hj, e1, h1, h2, h3⟩
  · unfold preB at h
    simp only [Bool.or_eq_true] at h
    rcases h with ((h | h) | h) | h
    · rw [Bool.and_eq_true, decide_eq_true_eq] at h
      exact ⟨0, .inl (.inl (.inl (.inl (by unfold rF; rw [if_pos h]; exact List.mem_singleton.mpr rfl))))⟩
    · unfold arrB at h
      rw [List.any_eq_true] at h
      obtain ⟨s, hs, h⟩ := h
      have hs := List.mem_range.mp hs
      rw [Bool.and_eq_true, Bool.and_eq_true, beq_iff_eq, beq_iff_eq, List.any_eq_true] at h
      obtain ⟨⟨a1, a2⟩, u, hu, a3⟩ := h
      have hc := cm_cb ht (by rw [a1]; exact d) a3
      refine ⟨1000 + 10 * s + u, .inl (.inl (.inl (.inr ?_)))⟩
      unfold rV
      rw [List.mem_flatMap]
      refine ⟨s, List.mem_range.mpr hs, ?_⟩
      rw [if_pos ⟨a2, a1⟩]
      unfold rW
      rw [List.mem_map]
      exact ⟨u, List.mem_filter.mpr ⟨hu, hc⟩, rfl⟩
    · unfold kpB at h
      rw [Bool.and_eq_true, Bool.and_eq_true, decide_eq_true_eq] at h
      exact ⟨2000 + (kf f m t - 1), .inl (.inl (.inr (by unfold rK; rw [if_pos h]; exact List.mem_singleton.mpr rfl)))⟩
    · unfold nxB at h
      rw [Bool.and_eq_true, Bool.and_eq_true, decide_eq_true_eq, List.any_eq_true] at h
      obtain ⟨⟨a1, a2⟩, c, hc, a3⟩ := h
      simp only [Bool.and_eq_true, beq_iff_eq] at a3
      refine ⟨3000 + c, .inl (.inr ?_)⟩
      unfold rX
      rw [List.mem_map]
      refine ⟨c, List.mem_filter.mpr ⟨hc, ?_⟩, rfl⟩
      unfold bxN
      rw [a2, a3.2, a3.1.1.2, decide_eq_true a1]
      simp [a3.1.1.1, a3.1.2]
  · refine ⟨4000 + j, .inr ?_⟩
    unfold rN
    rw [List.mem_map]
    refine ⟨j, List.mem_filter.mpr ⟨List.mem_range.mpr hj, ?_⟩, rfl⟩
    unfold bwN
    rw [eT, h2, h3]
    simp [h1, e1]
theorem rsn_mem {v : Nat} (h : v ∈ rsn p f r m t) : v = 0 ∨ (∃ s u, v = 1000 + 10 * s + u ∧ s < p.1 4 0 ∧ u < t ∧ cbB p f s u t = true) ∨ (∃ u, v = 2000 + u ∧ u < t ∧ Tz p f u m r = true) ∨ (∃ c, v = 3000 + c ∧ c < p.1 3 0 ∧ bxN p f c m t = true) ∨ ∃ c, v = 4000 + c ∧ c < p.1 3 0 ∧ bwN p f c m t = true := by
  unfold rsn at h
  simp only [List.mem_append] at h
  rcases h with (((h | h) | h) | h) | h
  · unfold rF at h
    split at h
    · exact .inl (List.mem_singleton.mp h)
    · exact absurd h List.not_mem_nil
  · unfold rV at h
    rw [List.mem_flatMap] at h
    obtain ⟨s, hs, h⟩ := h
    have hs := List.mem_range.mp hs
    split at h
    · unfold rW at h
      rw [List.mem_map] at h
      obtain ⟨u, hu, e⟩ := h
      have hu := List.mem_filter.mp hu
      exact .inr (.inl ⟨s, u, e.symm, hs, List.mem_range.mp hu.1, hu.2⟩)
    · exact absurd h List.not_mem_nil
  · unfold rK at h
    split at h
    · next c =>
      have := kf_le (f := f) (m := m) t
      exact .inr (.inr (.inl ⟨kf f m t - 1, List.mem_singleton.mp h, by omega, c.2.2⟩))
    · exact absurd h List.not_mem_nil
  · unfold rX at h
    rw [List.mem_map] at h
    obtain ⟨c, hc, e⟩ := h
    have hc := List.mem_filter.mp hc
    exact .inr (.inr (.inr (.inl ⟨c, e.symm, List.mem_range.mp hc.1, (Bool.and_eq_true _ _ ▸ hc.2).2⟩)))
  · unfold rN at h
    rw [List.mem_map] at h
    obtain ⟨c, hc, e⟩ := h
    have hc := List.mem_filter.mp hc
    exact .inr (.inr (.inr (.inr ⟨c, e.symm, List.mem_range.mp hc.1, (Bool.and_eq_true _ _ ▸ hc.2).2⟩)))
/-- a link; the link behind it -/
def lnk (X : Nat → Bool) (m t : Nat) : Option Nat := (fsT X).map fun r => 1000 * t + 100 * m + r
def nxV (p : PR) (f : FL) (t m r v : Nat) : Option Nat := if v < 1000 then none else if v < 2000 then lnk (askB p.1 (10 + (v - 1000) / 10)) (p.1 11 (10 + (v - 1000) / 10) - 1) (ctK p f ((v - 1000) / 10) (v % 10)) else if v < 3000 then some (1000 * (v - 2000) + 100 * m + r) else if v < 4000 then lnk (askB p.1 (v - 3000)) m (t - 1) else lnk (askB p.1 (v - 4000)) m t
def LKp (p : PR) (f : FL) (c : Nat) : Prop := c / 1000 ≤ pl p ∧ c / 100 % 10 < p.1 0 0 ∧ c % 100 < p.1 1 0 ∧ Tz p f (c / 1000) (c / 100 % 10) (c % 100) = true
theorem lk_mk (w : WB p.1) (h1 : t ≤ pl p) (h2 : m < p.1 0 0) (h3 : r < p.1 1 0) (h4 : Tz p f t m r = true) : LKp p f (1000 * t + 100 * m + r) := by
  have wm := w.m
  have wr := w.r
  have e1 : (1000 * t + 100 * m + r) / 1000 = t := by omega
  have e2 : (1000 * t + 100 * m + r) / 100 % 10 = m := by omega
  have e3 : (1000 * t + 100 * m + r) % 100 = r := by omega
  unfold LKp
  rw [e1, e2, e3]
  exact ⟨h1, h2, h3, h4⟩
theorem ask_in {B : BK} {c : Nat} {b : Bool} {X : Nat → Bool} (w : WC B c) (h : cH B c b X = true) {r : Nat} (a : askB B c r = true) : r < B 1 0 ∧ X r = true := by
  unfold askB at a
  rw [List.any_eq_true] at a
  obtain ⟨i, hi, a⟩ := a
  have hi' := List.mem_range.mp hi
  rw [Bool.and_eq_true, beq_iff_eq, beq_iff_eq] at a
  unfold cH cHf at h
  rw [List.all_eq_true] at h
  have := h i (by rw [Nat.sub_zero]; exact hi)
  rw [Nat.zero_add, if_pos a.2, a.1] at this
  exact ⟨by rw [← a.1]; exact w.cr i hi', this⟩
theorem lnk_ok {c n u : Nat} {b : Bool} (w : WB p.1) (wc : WC p.1 c) (hu : u ≤ pl p) (hn : n < p.1 0 0) (h : cH p.1 c b (Tz p f u n) = true) {y : Nat} (e : lnk (askB p.1 c) n u = some y) : LKp p f y := by
  unfold lnk at e
  rw [Option.map_eq_some_iff] at e
  obtain ⟨r', hr, e⟩ := e
  have := (fsF_some 10 0 r' hr).2.2
  have := ask_in wc h this
  rw [← e]
  exact lk_mk w hu hn this.1 this.2
theorem cb_h {s u : Nat} (hc : cbB p f s u t = true) : hB p f (Tz p f) s (ctK p f s u) = true := by
  have sn : sntB p f (Tz p f) s u = true := by
    cases e : sntB p f (Tz p f) s u
    · unfold cbB stB at hc
      rw [e, if_neg (by decide)] at hc
      simp at hc
    · rfl
  unfold ctK agB
  rw [sn, Bool.true_and]
  cases e : hB p f (Tz p f) s u
  · unfold sntB at sn
    rw [e, Bool.false_or] at sn
    simp only [Bool.and_eq_true] at sn
    exact sn.1.2
  · exact e
theorem nx_ok (w : WB p.1) (hx : pl p ≤ 6) (ht : t ≤ pl p) (hm : m < p.1 0 0) (hr : r < p.1 1 0) {v : Nat} (h : v ∈ rsn p f r m t) {y : Nat} (e : nxV p f t m r v = some y) : LKp p f y := by
  have ws := w.s
  have wu := w.u
  unfold nxV at e
  rcases rsn_mem h with h | ⟨s, u, h, hs, hu, hc⟩ | ⟨u, h, hu, hc⟩ | ⟨c, h, hc, hb⟩ | ⟨c, h, hc, hb⟩
  · rw [if_pos (by omega)] at e; exact nomatch e
  · have e1 : (v - 1000) / 10 = s := by omega
    have e2 : v % 10 = u := by omega
    rw [if_neg (by omega), if_pos (by omega), e1, e2] at e
    have hh := cb_h hc
    have wp := (w.se s hs).pl
    have wp1 := w.sp s hs
    unfold hB at hh
    rw [Bool.and_eq_true] at hh
    refine lnk_ok w (w.se s hs) ?_ (by omega) hh.2 e
    unfold ctK
    split <;> omega
  · rw [if_neg (by omega), if_neg (by omega), if_pos (by omega)] at e
    injection e with e
    rw [← e, h, show 2000 + u - 2000 = u by omega]
    exact lk_mk w (by omega) hm hr hc
  · rw [if_neg (by omega), if_neg (by omega), if_neg (by omega), if_pos (by omega), h, show 3000 + c - 3000 = c by omega] at e
    unfold bxN at hb
    simp only [Bool.and_eq_true] at hb
    exact lnk_ok w (w.ru c hc) (by omega) hm hb.2.2 e
  · rw [if_neg (by omega), if_neg (by omega), if_neg (by omega), if_neg (by omega), h, show 4000 + c - 4000 = c by omega] at e
    unfold bwN at hb
    simp only [Bool.and_eq_true] at hb
    exact lnk_ok w (w.ru c hc) ht hm hb.2 e
end
/-- THE CHAIN -/
def nxC (p : PR) (f : FL) (c : Nat) : Option Nat := nxV p f (c / 1000) (c / 100 % 10) (c % 100) ((rTo p f (c % 100) (c / 100 % 10) (c / 1000)).getD 0 0)
def chF (nx : Nat → Option Nat) : Nat → List Nat → Option Nat → List Nat
  | 0, l, _ => l
  | _ + 1, l, none => l
  | n + 1, l, some c => if c ∈ l then l else chF nx n (l ++ [c]) (nx c)
theorem nxC_v {p : PR} {f : FL} (w : WB p.1) {c : Nat} (k : LKp p f c) : ∃ v L, rTo p f (c % 100) (c / 100 % 10) (c / 1000) = v :: L ∧ v ∈ rsn p f (c % 100) (c / 100 % 10) (c / 1000) ∧ nxC p f c = nxV p f (c / 1000) (c / 100 % 10) (c % 100) v := by
  have e : rTo p f (c % 100) (c / 100 % 10) (c / 1000) = rsn p f (c % 100) (c / 100 % 10) (c / 1000) := by unfold rTo; rw [if_pos k.2.2.2]
  obtain ⟨v, hv⟩ := rsn_ne w k.1 k.2.2.2
  cases q : rsn p f (c % 100) (c / 100 % 10) (c / 1000) with
  | nil => rw [q] at hv; exact absurd hv List.not_mem_nil
  | cons v L =>
    refine ⟨v, L, by rw [e, q], List.mem_cons_self, ?_⟩
    unfold nxC
    rw [e, q]; rfl
theorem nxC_ok {p : PR} {f : FL} (w : WB p.1) (hx : pl p ≤ 6) {c y : Nat} (k : LKp p f c) (e : nxC p f c = some y) : LKp p f y := by
  obtain ⟨v, L, _, hv, e2⟩ := nxC_v w k
  rw [e2] at e
  exact nx_ok w hx k.1 k.2.1 k.2.2.1 hv e
def Dis (l : List Nat) : Prop := ∀ i j, i < j → j < l.length → l.getD i 0 ≠ l.getD j 0
theorem Dis_app {l : List Nat} {c : Nat} (d : Dis l) (h : c ∉ l) : Dis (l ++ [c]) := by
  intro i j hij hj
  rw [List.length_append] at hj
  have hj : j < l.length + 1 := hj
  rw [getD_app (by omega), getD_app (by omega), if_pos (by omega)]
  by_cases e : j < l.length
  · rw [if_pos e]; exact d i j hij e
  · rw [if_neg e]
    intro q
    exact h (by rw [← q]; exact getD_mem (by omega))
theorem ch_len {p : PR} {f : FL} {l : List Nat} (w : WB p.1) (hx : pl p ≤ 6) (d : Dis l) (k : ∀ c, c ∈ l → LKp p f c) : l.length ≤ 280 := by
  have wm := w.m
  have wr := w.r
  refine fb_holes 280 l.length (fun i => l.getD i 0 / 1000 * 40 + l.getD i 0 / 100 % 10 * 10 + l.getD i 0 % 100) (fun i hi => ?_) (fun i j hij hj e => ?_)
  · have := k _ (getD_mem hi)
    unfold LKp at this
    omega
  · have k1 := k _ (getD_mem (by omega : i < l.length))
    have k2 := k _ (getD_mem hj)
    unfold LKp at k1 k2
    have e : l.getD i 0 / 1000 * 40 + l.getD i 0 / 100 % 10 * 10 + l.getD i 0 % 100 = l.getD j 0 / 1000 * 40 + l.getD j 0 / 100 % 10 * 10 + l.getD j 0 % 100 := e
    exact d i j hij hj (by omega)
