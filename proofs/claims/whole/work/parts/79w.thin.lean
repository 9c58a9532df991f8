/-! THIN: the size of the first set that spoils -/
def thL (Q : List Nat → Bool) : List (List Nat) → Option Nat
  | [] => none
  | l :: L => if Q l then some l.length else thL Q L
def spQ (p : PR) (l : List Nat) : Bool := spo p (flOf []) (flOf l)
def thQ (p : PR) (lim : Nat) (l : List Nat) : Bool := decide (l.length ≤ lim) && spQ p l
theorem thL_app {Q : List Nat → Bool} : ∀ L M, thL Q (L ++ M) = match thL Q L with
    | some x => some x
    | none => thL Q M := by
  intro L
  induction L with
  | nil => intro M; rfl
  | cons l L ih =>
    intro M
    show (if Q l then some l.length else thL Q (L ++ M)) = match (if Q l then some l.length else thL Q L) with
      | some x => some x
      | none => thL Q M
    cases Q l
    · exact ih M
    · rfl
theorem thL_none {Q : List Nat → Bool} : ∀ L, (∀ l, l ∈ L → Q l = false) → thL Q L = none := by
  intro L
  induction L with
  | nil => intro _; rfl
  | cons l L ih =>
    intro h
    rw [thL, h l List.mem_cons_self, if_neg (by decide)]
    exact ih (fun k hk => h k (List.mem_cons_of_mem _ hk))
theorem thL_some {Q : List Nat → Bool} {s : Nat} : ∀ L, (∀ l, l ∈ L → l.length = s) → (∃ l, l ∈ L ∧ Q l = true) → thL Q L = some s := by
  intro L
  induction L with
  | nil => rintro _ ⟨l, hl, _⟩; exact absurd hl List.not_mem_nil
  | cons l L ih =>
    rintro h ⟨k, hk, hq⟩
    rw [thL]
    cases q : Q l
    · rw [if_neg (by decide)]
      rcases List.mem_cons.mp hk with e | e
      · rw [e, q] at hq; exact nomatch hq
      · exact ih (fun k hk => h k (List.mem_cons_of_mem _ hk)) ⟨k, e, hq⟩
    · rw [if_pos rfl, h l List.mem_cons_self]
theorem thL_mem {Q : List Nat → Bool} {x : Nat} : ∀ L, thL Q L = some x → ∃ l, l ∈ L ∧ l.length = x := by
  intro L
  induction L with
  | nil => intro h; exact nomatch h
  | cons l L ih =>
    intro h
    rw [thL] at h
    split at h
    · injection h with h; exact ⟨l, List.mem_cons_self, h⟩
    · obtain ⟨k, hk, e⟩ := ih h
      exact ⟨k, List.mem_cons_of_mem _ hk, e⟩
theorem thL_congr {Q R : List Nat → Bool} : ∀ L, (∀ l, l ∈ L → Q l = R l) → thL Q L = thL R L := by
  intro L
  induction L with
  | nil => intro _; rfl
  | cons l L ih =>
    intro h
    rw [thL, thL, h l List.mem_cons_self, ih (fun k hk => h k (List.mem_cons_of_mem _ hk))]
theorem seg_mem {a : List Nat} {r : NN_} {s lo n : Nat} {l : List Nat} (h : l ∈ seg a r s lo n) : ∃ v, lo ≤ v ∧ v < lo + n ∧ PS a r s v = true ∧ l = sL a s v := by
  unfold seg at h
  obtain ⟨v, hv, e⟩ := List.mem_map.mp h
  have hv := List.mem_filter.mp hv
  have := List.mem_range'_1.mp hv.1
  exact ⟨v, this.1, this.2, hv.2, e.symm⟩
theorem ups_mem {a : List Nat} {r : NN_} {l : List Nat} : ∀ n s, s + n ≤ 4 → l ∈ ups a r s n → s ≤ l.length ∧ l.length < s + n := by
  intro n
  induction n with
  | zero => intro s _ h; exact absurd h List.not_mem_nil
  | succ n ih =>
    intro s hs h
    rw [ups_s] at h
    rcases List.mem_append.mp h with h | h
    · obtain ⟨v, _, _, _, rfl⟩ := seg_mem h
      rw [sL_len (by omega)]; omega
    · have := ih (s + 1) (by omega) h
      omega
theorem RSt_mem {a : List Nat} {r : NN_} {T s c : Nat} {l : List Nat} (hT : T ≤ 3) (hs : s ≤ T) (h : l ∈ RSt a r T s c) : s ≤ l.length := by
  unfold RSt at h
  rcases List.mem_append.mp h with h | h
  · obtain ⟨v, _, _, _, rfl⟩ := seg_mem h
    rw [sL_len (by omega)]; exact Nat.le_refl _
  · have := ups_mem (T - s) (s + 1) (by omega) h
    omega
/-- a limit on the size is a limit on the list -/
theorem th_lim {p : PR} {a : List Nat} {r : NN_} {T lim : Nat} (hT : T ≤ 3) : thL (thQ p lim) (ups a r 1 T) = thL (spQ p) (ups a r 1 (min lim T)) := by
  have sp : ups a r 1 T = ups a r 1 (min lim T) ++ ups a r (1 + min lim T) (T - min lim T) := by
    unfold ups
    rw [← List.flatMap_append, List.range'_append_1, show min lim T + (T - min lim T) = T by omega]
  rw [sp, thL_app]
  have e1 : thL (thQ p lim) (ups a r 1 (min lim T)) = thL (spQ p) (ups a r 1 (min lim T)) := thL_congr _ (fun l hl => by
    have := ups_mem (min lim T) 1 (by omega) hl
    unfold thQ
    rw [decide_eq_true (by omega)]; rfl)
  have e2 : thL (thQ p lim) (ups a r (1 + min lim T) (T - min lim T)) = none := thL_none _ (fun l hl => by
    have := ups_mem (T - min lim T) (1 + min lim T) (by omega) hl
    unfold thQ
    rw [decide_eq_false (by omega)]; rfl)
  rw [e1, e2]
  cases thL (spQ p) (ups a r 1 (min lim T)) <;> rfl
theorem thL_seg {p : PR} {a : List Nat} {r : NN_} {s c lim : Nat} {w : Int64} (hs : s ≤ 3) (hl : s ≤ lim) (hw : ∀ j, j < 64 → tl w j = (PS a r s (c + j) && spQ p (sL a s (c + j)))) : thL (thQ p lim) (seg a r s c 64) = if w = lN 0 then none else some s := by
  have ln : ∀ l, l ∈ seg a r s c 64 → l.length = s := fun l hl => by
    obtain ⟨v, _, _, _, rfl⟩ := seg_mem hl
    exact sL_len hs
  by_cases wz : w = lN 0
  · rw [if_pos wz]
    refine thL_none _ (fun l hm => ?_)
    obtain ⟨v, h1, h2, h3, rfl⟩ := seg_mem hm
    have := hw (v - c) (by omega)
    rw [wz, tl_n0, show c + (v - c) = v by omega, h3, Bool.true_and] at this
    unfold thQ
    rw [← this, Bool.and_false]
  · rw [if_neg wz]
    obtain ⟨t, t64, _, t1⟩ := low64 wz
    have := hw t t64
    rw [t1] at this
    have := (Bool.and_eq_true _ _).mp this.symm
    refine thL_some _ ln ⟨sL a s (c + t), ?_, ?_⟩
    · unfold seg
      exact List.mem_map.mpr ⟨c + t, List.mem_filter.mpr ⟨List.mem_range'_1.mpr ⟨by omega, by omega⟩, this.1⟩, rfl⟩
    · unfold thQ
      rw [sL_len hs, decide_eq_true hl, this.2]; rfl
def ThA : Nat → Prop := fun x => x = 146 ∨ x = 148 ∨ x = 149 ∨ x = 150 ∨ (156 ≤ x ∧ x ≤ 158) ∨ x = 181
theorem ThA_n {x : Nat} (c : ThA x) : 120 ≤ x ∧ x ≠ 147 := by unfold ThA at c; omega
theorem spoil_lp {wk b tr : Nat} {p : PR} {r : NN_} {a : List Nat} (lim : Nat) (l3 : lim ≤ 3) (N120 : a.length ≤ 120) (ao : ∀ y, y ∈ a → OKf y) (htr : tr = 168) : ∀ g s c mu n i (h : AH), 131072 - mu ≤ g → g < n → i ≤ mu → CaX_ h wk b p r → AdR h a (r 0 + r 1 + r 2 + r 3) s c mu → IsTr h tr p (flOf []) → ∃ h', X9_spoilSize_B11 n 145 wk tr (nI lim) (nI i) h = some (leV (thL (thQ p lim) (RSt a r (r 0 + r 1 + r 2 + r 3) s c)), h') ∧ Fq ThA h h' := by
  intro g
  induction g with
  | zero =>
    intro s c mu n i h hg hn hi C R I
    have ml := R.le C.x N120
    obtain ⟨n, rfl⟩ : ∃ q, n = q + 1 := ⟨n - 1, by omega⟩
    obtain ⟨c', h1, e1, F1, ad⟩ := advance_g C N120 R
    rcases ad with ⟨rfl, nil⟩ | ⟨rfl, s', d', base', B', _, m'⟩
    · refine ⟨h1, ?_, F1.q.mo (fun x q => by unfold PuA at q; unfold ThA; omega)⟩
      rw [X9_spoilSize_B11, if_neg (by rw [nI_lI (by omega) (by omega)]; omega), G_t C.g.c145, C.g.r145_0, G_t C.g.c146, e1, BN_ok, if_pos (by decide), nil]; rfl
    · have := mu_lt C.x B'
      omega
  | succ g ih =>
    intro s c mu n i h hg hn hi C R I
    have ml := R.le C.x N120
    obtain ⟨n, rfl⟩ : ∃ q, n = q + 1 := ⟨n - 1, by omega⟩
    obtain ⟨c', h1, e1, F1, ad⟩ := advance_g C N120 R
    have g1 := C.g.fr F1
    have FF1 : Fq ThA h h1 := F1.q.mo (fun x q => by unfold PuA at q; unfold ThA; omega)
    rcases ad with ⟨rfl, nil⟩ | ⟨rfl, s', d', base', B', sp, m'⟩
    · refine ⟨h1, ?_, FF1⟩
      rw [X9_spoilSize_B11, if_neg (by rw [nI_lI (by omega) (by omega)]; omega), G_t C.g.c145, C.g.r145_0, G_t C.g.c146, e1, BN_ok, if_pos (by decide), nil]; rfl
    · have ml' := mu_lt C.x B'
      have C1 := C.fq FF1 (fun a c => ThA_n c)
      have s3 : s' ≤ 3 := Nat.le_trans B'.sT C.x
      have hdr : X9_spoilSize_B11 (n + 1) 145 wk tr (nI lim) (nI i) h = if nI lim < nI s' then some ((-1), h1) else (BN (X5_spread_f 146 155 h1) fun _ h9 => G (xc h9 145 = 9) <| G (xc h9 (xR h9 145 0) = 5) <| if (lg_cmp (xL h9 (xR h9 145 0) 7) (lN 0)) = 0 then X9_spoilSize_B96 (X9_spoilSize_B11 n) 145 wk tr (nI lim) (nI i) h9 else (G (xc h9 145 = 9) <| G (xc h9 (xR h9 145 9) = 7) <| BN (X7_spoiledLanes_f (xR h9 145 9) wk tr (xR h9 145 2) h9) fun w15 h14 => G (xc h14 145 = 9) <| G (xc h14 (xR h14 145 0) = 5) <| if (lg_cmp (w15 &&& (xL h14 (xR h14 145 0) 7)) (lN 0)) = 0 then X9_spoilSize_B96 (X9_spoilSize_B11 n) 145 wk tr (nI lim) (nI i) h14 else X9_spoilSize_B88 145 h14)) := by
        rw [X9_spoilSize_B11, if_neg (by rw [nI_lI (by omega) (by omega)]; omega), G_t C.g.c145, C.g.r145_0, G_t C.g.c146, e1, BN_ok, if_neg (by decide), G_t g1.c145, g1.r145_0, G_t g1.c146, B'.u.s, G_t g1.c145, G_t g1.c146, g1.r145_2]
      rw [hdr]
      by_cases cl : lim < s'
      · refine ⟨h1, ?_, FF1⟩
        have : thL (thQ p lim) (RSt a r (r 0 + r 1 + r 2 + r 3) s c) = none := thL_none _ (fun l hl => by
          rw [sp] at hl
          have : s' ≤ l.length := by
            rcases List.mem_append.mp hl with q | q
            · obtain ⟨v, _, _, _, rfl⟩ := seg_mem q
              rw [sL_len s3]; exact Nat.le_refl _
            · exact RSt_mem C.x B'.sT q
          unfold thQ
          rw [decide_eq_false (by omega)]; rfl)
        rw [if_pos (by rw [nI_tI (by omega) (by omega)]; exact cl), this]; rfl
      · obtain ⟨h2, e2, F2, B2, v2⟩ := spread_c C1 N120 ao B'
        have g2 := g1.fr F2
        have FF2 : Fq ThA h h2 := FF1.tr (F2.q.mo (fun x q => by unfold SpA at q; unfold ThA; omega))
        have C2 := C.fq FF2 (fun a c => ThA_n c)
        have I2 : IsTr h2 tr p (flOf []) := I.fq FF2 (fun k hk => by unfold ThA; omega)
        rw [if_neg (by rw [nI_tI (by omega) (by omega)]; exact cl), e2, BN_ok, G_t g2.c145, g2.r145_0, G_t g2.c146, sp, thL_app]
        have nx : ∀ h', X9_spoilSize_B96 (X9_spoilSize_B11 n) 145 wk tr (nI lim) (nI i) h' = X9_spoilSize_B11 n 145 wk tr (nI lim) (nI (i + 1)) h' := fun h' => by
          unfold X9_spoilSize_B96
          rw [LT_e, nI_add]
        by_cases op : xL h2 146 7 = lN 0
        · have emp : seg a r s' (d' * 128 + base') 64 = [] := seg_nil (fun v h1 h2 => by
            have := (v2 (v - (d' * 128 + base')) (by omega)).1
            rw [op, tl_n0, show d' * 128 + base' + (v - (d' * 128 + base')) = v by omega] at this
            exact this.symm)
          obtain ⟨h9, e9, F9⟩ := ih s' (d' * 128 + base' + 64) (muA s' d' base') n (i + 1) h2 (by omega) (by omega) (by omega) C2 (.inr ⟨d', base', B2, rfl, rfl⟩) I2
          refine ⟨h9, ?_, FF2.tr F9⟩
          rw [if_pos (cmp0.mpr op), nx, emp]; exact e9
        · obtain ⟨w, h3, e3, F3, v3⟩ := spoiled_ok g2 g2.l2 C2.w C2.q I2 C.n C.y
          have g3 := g2.fq F3
          have FF3 : Fq ThA h h3 := FF2.tr (F3.mo (fun x q => by unfold ThA; omega))
          have C3 := C.fq FF3 (fun a c => ThA_n c)
          have B3 := B2.fq F3 (fun x q => by omega)
          have I3 : IsTr h3 tr p (flOf []) := I.fq FF3 (fun k hk => by unfold ThA; omega)
          have o3 : xL h3 146 7 = xL h2 146 7 := F3.L 7 (by omega)
          have hw : ∀ j, j < 64 → tl (w &&& xL h3 146 7) j = (PS a r s' (d' * 128 + base' + j) && spQ p (sL a s' (d' * 128 + base' + j))) := fun j hj => by
            rw [tl_and, o3, (v2 j hj).1, (v3 j hj).2]
            unfold spQ
            cases hp : PS a r s' (d' * 128 + base' + j)
            · rw [Bool.and_false, Bool.false_and]
            · rw [(v2 j hj).2 hp, Bool.and_true, Bool.true_and]
          rw [if_neg (fun q => op (cmp0.mp q)), G_t g2.c145, g2.r145_9, G_t g2.c180, g2.r145_2, e3, BN_ok, G_t g3.c145, g3.r145_0, G_t g3.c146, thL_seg s3 (by omega) hw]
          by_cases wz : w &&& xL h3 146 7 = lN 0
          · obtain ⟨h9, e9, F9⟩ := ih s' (d' * 128 + base' + 64) (muA s' d' base') n (i + 1) h3 (by omega) (by omega) (by omega) C3 (.inr ⟨d', base', B3, rfl, rfl⟩) I3
            refine ⟨h9, ?_, FF3.tr F9⟩
            rw [if_pos (cmp0.mpr wz), if_pos wz, nx]; exact e9
          · refine ⟨h3, ?_, FF3⟩
            rw [if_neg (fun q => wz (cmp0.mp q)), if_neg wz]
            unfold X9_spoilSize_B88
            rw [G_t g3.c145, g3.r145_0, G_t g3.c146, B3.u.s]; rfl
theorem spoilSize_c {h : AH} {wk b : Nat} {p : PR} {r : NN_} (lim : Nat) (l3 : lim ≤ 3) (C : CaX_ h wk b p r) (I : IsTr h 168 p (flOf [])) : ∃ h', X9_spoilSize_f 145 wk 168 (nI lim) h = some (leV (thL (spQ p) (ups (alF p r) r 1 (min lim (r 0 + r 1 + r 2 + r 3)))), h') ∧ Fq ThA h h' := by
  have N120 := alF_len (r := r) C.q.w C.y
  have ao : ∀ y, y ∈ alF p r → OKf y := fun y hy => (alF_ok C.q.w C.y hy).1
  obtain ⟨h1, e1, F1, P1⟩ := begin_c C
  have FF1 : Fq ThA h h1 := F1.q.mo (fun x q => by unfold PuA at q; unfold ThA; omega)
  obtain ⟨h2, e2, F2⟩ := spoil_lp (p := p) (r := r) lim l3 N120 ao rfl 131072 0 1 (muA 0 0 (alF p r).length) FU 0 h1 (by omega) (FU_gt (by omega)) (by omega) (C.fq FF1 (fun a c => ThA_n c)) (.inl ⟨rfl, rfl, P1, rfl⟩) (I.fq FF1 (fun k hk => by unfold ThA; omega))
  have rs : RSt (alF p r) r (r 0 + r 1 + r 2 + r 3) 0 1 = ups (alF p r) r 1 (r 0 + r 1 + r 2 + r 3) := by
    unfold RSt
    rw [show 128 ^ 0 - 1 = 0 from rfl]; rfl
  rw [rs, th_lim C.x] at e2
  refine ⟨h2, ?_, FF1.tr F2⟩
  unfold X9_spoilSize_f
  rw [G_t C.g.c145, C.g.r145_0, G_t C.g.c146, e1, BN_ok]
  exact e2
/-- the starts, one by one: the best so far and its size -/
def pst (p : PR) (k : Nat) : PR := (p.1, p.2.1, nI k, p.2.2.2)
def limO (T : Nat) : Option (Nat × Nat) → Nat
  | none => T
  | some x => x.2 - 1
def thS (p : PR) (r : NN_) (T : Nat) (o : Option (Nat × Nat)) (k : Nat) : Option (Nat × Nat) := if outB (pst p k) (flOf []) = 0 then (match thL (spQ (pst p k)) (ups (alF p r) r 1 (limO T o)) with
  | some x => some (k, x)
  | none => o) else o
def thO (p : PR) (r : NN_) (T : Nat) : Nat → Option (Nat × Nat)
  | 0 => none
  | k + 1 => thS p r T (thO p r T k) k
theorem thO_b {p : PR} {r : NN_} {T : Nat} (hT : T ≤ 3) : ∀ n y, thO p r T n = some y → 1 ≤ y.2 ∧ y.2 ≤ T := by
  have key : ∀ n, (∀ y, thO p r T n = some y → 1 ≤ y.2 ∧ y.2 ≤ T) ∧ limO T (thO p r T n) ≤ T := by
    intro n
    induction n with
    | zero => exact ⟨(fun y h => nomatch h), Nat.le_refl _⟩
    | succ n ih =>
      obtain ⟨i1, i2⟩ := ih
      have st : ∀ y, thO p r T (n + 1) = some y → 1 ≤ y.2 ∧ y.2 ≤ T := by
        intro y h
        rw [thO] at h
        unfold thS at h
        split at h
        · split at h
          · next x hx =>
            injection h with h
            rw [← h]
            obtain ⟨l, hl, e⟩ := thL_mem _ hx
            have := ups_mem _ 1 (by omega) hl
            show 1 ≤ x ∧ x ≤ T
            omega
          · exact i1 y h
        · exact i1 y h
      refine ⟨st, ?_⟩
      cases q : thO p r T (n + 1) with
      | none => exact Nat.le_refl _
      | some y => have := st y q; show y.2 - 1 ≤ T; omega
  exact fun n => (key n).1
theorem thO_stop {p : PR} {r : NN_} {T : Nat} {y : Nat × Nat} {n : Nat} (h : thO p r T n = some y) (h1 : y.2 ≤ 1) : ∀ k, thO p r T (n + k) = some y := by
  intro k
  induction k with
  | zero => exact h
  | succ k ih =>
    show thS p r T (thO p r T (n + k)) (n + k) = some y
    rw [ih]
    unfold thS
    have : limO T (some y) = 0 := by show y.2 - 1 = 0; omega
    rw [this]
    split <;> rfl
