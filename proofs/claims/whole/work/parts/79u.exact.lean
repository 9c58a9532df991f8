theorem writeSet_c {h : AH} {wk b s d base na j : Nat} {p : PR} {r : NN_} {a : List Nat} (C : CaX_ h wk b p r) (N120 : a.length ≤ 120) (B : BuS h a (r 0 + r 1 + r 2 + r 3) s d base) (ns : NuS h na 3) (hna : na = 160 ∨ na = 164) (hj : j < 64) (hN : base + j < a.length) : ∃ h', X5_writeSet_f 146 (nI j) na h = some ((), h') ∧ Fr (fun x => x = na ∨ x = na + 1) h h' ∧ IsN h' na 3 (sL a s (d * 128 + base + j)) := by
  have x := C.x
  have q := B.u
  have s1 := B.s1
  have sT := B.sT
  have bb := B.b
  have hd := B.d
  obtain ⟨e, rfl⟩ : ∃ e, s = e + 1 := ⟨s - 1, by omega⟩
  rw [Nat.add_sub_cancel] at hd
  have V : vld a.length (sD e d) = true := B.v
  have he : e ≤ 2 := by omega
  have qk : mL h 149 0 (sD e d) := q.k
  have sl : (sD e d).length = e := sD_len (by omega)
  have slt : ∀ i, i < e → (sD e d).getD i 0 < a.length := fun i hi => vld_128 (by omega) hi N120 V
  have ssub : nI (e + 1) - nI 1 = nI e := by rw [pk_sub (by omega)]; rfl
  have n0 : IsN (pI h na 1 (nI 0)) na 3 [] := ⟨ns.1, ns.2.1, ns.2.2.1, ns.2.2.2.1, by decide, by decide, xI_self, fun i hi => absurd hi (Nat.not_lt_zero _)⟩
  have F0 : Fr (fun x => x = na ∨ x = na + 1) h (pI h na 1 (nI 0)) := Fr.i (.inl rfl)
  obtain ⟨h1, ⟨F1, m1⟩, e1⟩ := loopE (F := fun n k h' => X5_writeSet_B6 n 146 (nI j) na (nI k) h') (E := fun h' => X5_writeSet_B42 146 (nI j) na h') e (fun k h' => Fr (fun x => x = na ∨ x = na + 1) h h' ∧ IsN h' na 3 (((sD e d).take k).map fun i => a.getD i 0)) (Nat.zero_le _) (by omega) (h := pI h na 1 (nI 0)) ⟨F0, n0⟩
    (by
      rintro n k h' hk ⟨F, m⟩
      have s' := C.g.fr F
      have lk := slt k hk
      have v1 : xI h' 149 (nI k).toNatClampNeg = nI ((sD e d).getD k 0) := by
        have := qk k (by omega)
        rw [Nat.zero_add] at this
        rw [nI_cl (by omega), F.I _ (by omega)]; exact this
      have v2 : xI h' 148 (nI ((sD e d).getD k 0)).toNatClampNeg = nI (a.getD ((sD e d).getD k 0) 0) := by
        have := q.l _ lk
        rw [Nat.zero_add] at this
        rw [nI_cl (by omega), F.I _ (by omega)]; exact this
      have q5 : xI h' 146 5 = nI (e + 1) := by rw [F.I _ (by omega)]; exact q.s
      obtain ⟨h2, e2, F2, m2⟩ := append_ok (v := a.getD ((sD e d).getD k 0) 0) m (by rw [List.length_map, List.length_take]; omega)
      refine ⟨h2, ⟨F.tr F2, by rw [take_s (by omega), List.map_append]; exact m2⟩, ?_⟩
      show X5_writeSet_B6 (n + 1) 146 (nI j) na (nI k) h' = _
      rw [X5_writeSet_B6]
      rw [G_t s'.c146, q5, ssub, if_neg (by rw [nI_lI (by omega) (by omega)]; omega), if_neg (by rw [nI_lI (by omega) (by omega)]; omega), G_t s'.c146, s'.r146_2, G_t s'.c149, s'.z149, G_gx (by omega) (by omega), s'.r146_1, G_t s'.c148, v1, s'.z148, G_gx (by omega) (by omega), G_t m.c, v2, e2, BN_ok, nI_add, LT_e])
    (by
      rintro n h' ⟨F, m⟩
      have s' := C.g.fr F
      have q5 : xI h' 146 5 = nI (e + 1) := by rw [F.I _ (by omega)]; exact q.s
      show X5_writeSet_B6 (n + 1) 146 (nI j) na (nI e) h' = _
      rw [X5_writeSet_B6]
      rw [G_t s'.c146, q5, ssub, if_pos (by rw [nI_lI (by omega) (by omega)]; omega)])
  rw [List.take_of_length_le (by omega)] at m1
  have s' := C.g.fr F1
  obtain ⟨h2, e2, F2, m2⟩ := append_ok (v := a.getD (base + j) 0) m1 (by rw [List.length_map]; omega)
  have v2 : xI h1 148 (nI (base + j)).toNatClampNeg = nI (a.getD (base + j) 0) := by
    have := q.l _ hN
    rw [Nat.zero_add] at this
    rw [nI_cl (by omega), F1.I _ (by omega)]; exact this
  refine ⟨h2, ?_, F1.tr F2, by rw [Nat.add_assoc, sL_app he hd (by omega)]; exact m2⟩
  unfold X5_writeSet_f
  have e1 : X5_writeSet_B6 FU 146 (nI j) na (nI 0) (pI h na 1 (nI 0)) = X5_writeSet_B42 146 (nI j) na h1 := e1
  rw [G_t ns.1, nw_wipe ns.1, BN_ok, e1]
  unfold X5_writeSet_B42
  rw [G_t s'.c146, F1.I 6 (by omega), q.b, nI_add, LT_e, if_neg (nI_pos (by omega)), G_t s'.c146, F1.I 4 (by omega), q.z, if_neg (by rw [nI_lI (by omega) (by omega)]; omega), G_t s'.c146, s'.r146_1, G_t s'.c148, s'.z148, G_gx (by omega) (by omega), G_t m1.c, v2, e2, BN_ok]
/-- where the class stands ahead of the next bundle -/
def AdR (h : AH) (a : List Nat) (T s c mu : Nat) : Prop := (s = 0 ∧ c = 1 ∧ PuS h a 0 0 a.length ∧ mu = muA 0 0 a.length) ∨ ∃ d base, BuS h a T s d base ∧ c = d * 128 + base + 64 ∧ mu = muA s d base
theorem advance_g {h : AH} {wk b s c mu : Nat} {p : PR} {r : NN_} {a : List Nat} (C : CaX_ h wk b p r) (N120 : a.length ≤ 120) (R : AdR h a (r 0 + r 1 + r 2 + r 3) s c mu) : ∃ c' h', X5_advance_f 146 h = some (bI c', h') ∧ Fr PuA h h' ∧ AdP h' a r (r 0 + r 1 + r 2 + r 3) s c mu c' := by
  rcases R with ⟨rfl, rfl, q, rfl⟩ | ⟨d, base, B, rfl, rfl⟩
  · exact advance_0 C N120 q
  · exact advance_c C N120 B
theorem mu_lt {h : AH} {a : List Nat} {T s d base : Nat} (hT : T ≤ 3) (B : BuS h a T s d base) : muA s d base ≤ 131072 := by
  have s1 := B.s1
  have sT := B.sT
  have bb := B.b
  have hd := B.d
  have : s = 1 ∨ s = 2 ∨ s = 3 := by omega
  unfold muA
  rcases this with rfl | rfl | rfl
  · have : d < 1 := hd
    omega
  · have : d < 128 := hd
    omega
  · have : d < 16384 := hd
    omega
theorem AdR.le {h : AH} {a : List Nat} {T s c mu : Nat} (hT : T ≤ 3) (N120 : a.length ≤ 120) (R : AdR h a T s c mu) : mu ≤ 131072 := by
  rcases R with ⟨rfl, rfl, q, rfl⟩ | ⟨d, base, B, rfl, rfl⟩
  · unfold muA; omega
  · exact mu_lt hT B
theorem BuS.fq {A : Nat → Prop} {h h' : AH} {a : List Nat} {T s d base : Nat} (F : Fq A h h') (n : ∀ x, A x → x ≠ 146 ∧ x ≠ 148 ∧ x ≠ 149) (B : BuS h a T s d base) : BuS h' a T s d base := ⟨B.u.fq F n, B.s1, B.sT, B.d, B.v, B.b⟩
/-- EXACT, plainly -/
def exS (p : PR) (x : Nat × List Nat) (l : List Nat) : Nat × List Nat := if outB p (flOf l) = 2 then (x.1 + 1, if x.1 = 0 then l else x.2) else x
def exL (p : PR) (x : Nat × List Nat) (L : List (List Nat)) : Nat × List Nat := L.foldl (exS p) x
theorem exL_app {p : PR} {x : Nat × List Nat} {L M : List (List Nat)} : exL p x (L ++ M) = exL p (exL p x L) M := List.foldl_append
theorem fsF_first {X : Nat → Bool} : ∀ t n c, t < n → (∀ i, i < t → X (c + i) = false) → X (c + t) = true → fsF X c n = some (c + t) := by
  intro t
  induction t with
  | zero =>
    intro n c hn _ h
    obtain ⟨n, rfl⟩ : ∃ q, n = q + 1 := ⟨n - 1, by omega⟩
    rw [Nat.add_zero] at h ⊢
    rw [fsF, if_pos h]; rfl
  | succ t ih =>
    intro n c hn lo h
    obtain ⟨n, rfl⟩ : ∃ q, n = q + 1 := ⟨n - 1, by omega⟩
    have := lo 0 (by omega)
    rw [Nat.add_zero] at this
    rw [fsF, this, if_neg (by decide), ih n (c + 1) (by omega) (fun i hi => by rw [show c + 1 + i = c + (i + 1) by omega]; exact lo (i + 1) (by omega)) (by rw [show c + 1 + t = c + (t + 1) by omega]; exact h), show c + 1 + t = c + (t + 1) by omega]
def exB (p : PR) (P : Nat → Bool) (S : Nat → List Nat) (v : Nat) : Bool := P v && outB p (flOf (S v)) == 2
theorem exL_rng {p : PR} {P : Nat → Bool} {S : Nat → List Nat} : ∀ k i n f, exL p (n, f) (((List.range' i k).filter P).map S) = (n + ((List.range' i k).filter (exB p P S)).length, if n = 0 then (match fsF (exB p P S) i k with
    | some j => S j
    | none => f) else f) := by
  intro k
  induction k with
  | zero =>
    intro i n f
    show (n, f) = (n + 0, if n = 0 then f else f)
    rw [ite_self]; rfl
  | succ k ih =>
    intro i n f
    rw [List.range'_succ, List.filter_cons, List.filter_cons, fsF]
    cases hp : P i
    · have : exB p P S i = false := by unfold exB; rw [hp]; rfl
      have ff : ¬ (false = true) := by decide
      rw [this, if_neg ff, if_neg ff, if_neg ff, ih]
    · rw [if_pos rfl, List.map_cons]
      show exL p (exS p (n, f) (S i)) _ = _
      by_cases ho : outB p (flOf (S i)) = 2
      · have : exB p P S i = true := by unfold exB; rw [hp, ho]; rfl
        rw [this, if_pos rfl, if_pos rfl]
        unfold exS
        rw [if_pos ho, ih, List.length_cons]
        show (n + 1 + _, if n + 1 = 0 then _ else (if n = 0 then S i else f)) = _
        rw [if_neg (by omega), show n + 1 + ((List.range' (i + 1) k).filter (exB p P S)).length = n + (((List.range' (i + 1) k).filter (exB p P S)).length + 1) by omega]
      · have : exB p P S i = false := by
          unfold exB
          have : (outB p (flOf (S i)) == 2) = false := by simpa using ho
          rw [this, Bool.and_false]
        have ff : ¬ (false = true) := by decide
        rw [this, if_neg ff, if_neg ff]
        unfold exS
        rw [if_neg ho, ih]
theorem cn_shift {B : Nat → Bool} {w : Int64} {c : Nat} (h : ∀ j, j < 64 → tl w j = B (c + j)) : ((List.range' c 64).filter B).length = cn64 w := by
  unfold cn64
  rw [List.range'_eq_map_range, List.filter_map, List.length_map]
  congr 1
  apply List.filter_congr
  intro j hj
  exact (h j (List.mem_range.mp hj)).symm
theorem low64 {w : Int64} (h : w ≠ lN 0) : ∃ t, t < 64 ∧ (∀ i, i < t → tl w i = false) ∧ tl w t = true := by
  have : ∀ n, n ≤ 64 → (∀ i, i < n → tl w i = false) ∨ ∃ t, t < n ∧ (∀ i, i < t → tl w i = false) ∧ tl w t = true := by
    intro n
    induction n with
    | zero => intro _; exact .inl (fun i hi => absurd hi (Nat.not_lt_zero _))
    | succ n ih =>
      intro hn
      rcases ih (by omega) with q | ⟨t, h1, h2⟩
      · cases e : tl w n
        · exact .inl (fun i hi => by
            by_cases ei : i = n
            · rw [ei]; exact e
            · exact q i (by omega))
        · exact .inr ⟨n, by omega, q, e⟩
      · exact .inr ⟨t, by omega, h2⟩
  rcases this 64 (Nat.le_refl _) with q | ⟨t, h1, h2, h3⟩
  · exact absurd (lz.mpr q) h
  · exact ⟨t, h1, h2, h3⟩
theorem exL_seg {p : PR} {a : List Nat} {r : NN_} {s c n : Nat} {f : List Nat} {w : Int64} (hw : ∀ j, j < 64 → tl w j = exB p (PS a r s) (sL a s) (c + j)) : (exL p (n, f) (seg a r s c 64)).1 = n + cn64 w ∧ (w = lN 0 → (exL p (n, f) (seg a r s c 64)).2 = f) ∧ (n ≠ 0 → (exL p (n, f) (seg a r s c 64)).2 = f) ∧ (n = 0 → ∀ t, t < 64 → (∀ i, i < t → tl w i = false) → tl w t = true → (exL p (n, f) (seg a r s c 64)).2 = sL a s (c + t)) := by
  have e : exL p (n, f) (seg a r s c 64) = _ := exL_rng (p := p) (P := PS a r s) (S := sL a s) 64 c n f
  rw [e]
  refine ⟨?_, fun hz => ?_, fun hn => if_neg hn, fun hn t ht lo h1 => ?_⟩
  · show n + _ = n + _
    rw [cn_shift hw]
  · have : fsF (exB p (PS a r s) (sL a s)) c 64 = none := fsF_none 64 c (fun j h1 h2 => by
      have := hw (j - c) (by omega)
      rw [hz, tl_n0, show c + (j - c) = j by omega] at this
      exact this.symm)
    show (if n = 0 then (match fsF (exB p (PS a r s) (sL a s)) c 64 with | some j => sL a s j | none => f) else f) = f
    rw [this]
    show (if n = 0 then f else f) = f
    rw [ite_self]
  · have : fsF (exB p (PS a r s) (sL a s)) c 64 = some (c + t) := fsF_first t 64 c ht (fun i hi => by rw [← hw i (by omega)]; exact lo i hi) (by rw [← hw t ht]; exact h1)
    show (if n = 0 then (match fsF (exB p (PS a r s) (sL a s)) c 64 with | some j => sL a s j | none => f) else f) = _
    rw [this, if_pos hn]
def ExA : Nat → Prop := fun x => x = 146 ∨ x = 148 ∨ x = 149 ∨ x = 150 ∨ (156 ≤ x ∧ x ≤ 158) ∨ (174 ≤ x ∧ x ≤ 179) ∨ x = 164 ∨ x = 165
theorem ExA_n {x : Nat} (c : ExA x) : 120 ≤ x ∧ x ≠ 147 := by unfold ExA at c; omega
theorem OKf_sL {a : List Nat} {s v : Nat} (hs : s ≤ 3) (N120 : a.length ≤ 120) (ao : ∀ y, y ∈ a → OKf y) (V : vld a.length (sD s v) = true) : ∀ y, y ∈ sL a s v → OKf y := by
  intro y hy
  unfold sL at hy
  obtain ⟨i, hi, rfl⟩ := List.mem_map.mp hy
  obtain ⟨k, hk, rfl⟩ := List.getElem_of_mem hi
  rw [sD_len hs] at hk
  have := vld_128 hs hk N120 V
  rw [List.getD_eq_getElem?_getD, List.getElem?_eq_getElem (by rw [sD_len hs]; exact hk)] at this
  exact ao _ (getD_mem this)
theorem outB_2 {p : PR} {f : FL} : (outB p f == 2) = (preP p (Tz p f) && !posP p (Tz p f)) := by
  unfold outB
  cases preP p (Tz p f) <;> cases posP p (Tz p f) <;> rfl
theorem runAll_c {wk b : Nat} {p : PR} {r : NN_} {a : List Nat} (N120 : a.length ≤ 120) (ao : ∀ y, y ∈ a → OKf y) : ∀ g s c mu n i sum f (h : AH), 131072 - mu ≤ g → g < n → i ≤ mu → sum ≤ 64 * mu → CaX_ h wk b p r → AdR h a (r 0 + r 1 + r 2 + r 3) s c mu → IsN h 164 3 f → ∃ h', X9_runAll_B19 n 145 wk (nI sum) (nI i) h = some (nI (exL p (sum, f) (RSt a r (r 0 + r 1 + r 2 + r 3) s c)).1, h') ∧ Fq ExA h h' ∧ IsN h' 164 3 (exL p (sum, f) (RSt a r (r 0 + r 1 + r 2 + r 3) s c)).2 := by
  intro g
  induction g with
  | zero =>
    intro s c mu n i sum f h hg hn hi hs C R I
    have x := C.x
    have ml := R.le C.x N120
    obtain ⟨n, rfl⟩ : ∃ q, n = q + 1 := ⟨n - 1, by omega⟩
    obtain ⟨c', h1, e1, F1, ad⟩ := advance_g C N120 R
    have g1 := C.g.fr F1
    rcases ad with ⟨rfl, nil⟩ | ⟨rfl, s', d', base', B', _, m'⟩
    · refine ⟨h1, ?_, F1.q.mo (fun x q => by unfold PuA at q; unfold ExA; omega), by rw [nil]; exact I.fr F1 (by unfold PuA; omega) (by unfold PuA; omega)⟩
      rw [X9_runAll_B19, if_neg (by rw [nI_lI (by omega) (by omega)]; omega), G_t C.g.c145, C.g.r145_0, G_t C.g.c146, e1, BN_ok, if_pos (by decide), nil]; rfl
    · have := mu_lt C.x B'
      omega
  | succ g ih =>
    intro s c mu n i sum f h hg hn hi hs C R I
    have x := C.x
    have ml := R.le C.x N120
    obtain ⟨n, rfl⟩ : ∃ q, n = q + 1 := ⟨n - 1, by omega⟩
    obtain ⟨c', h1, e1, F1, ad⟩ := advance_g C N120 R
    have g1 := C.g.fr F1
    have FF1 : Fq ExA h h1 := F1.q.mo (fun x q => by unfold PuA at q; unfold ExA; omega)
    have I1 : IsN h1 164 3 f := I.fr F1 (by unfold PuA; omega) (by unfold PuA; omega)
    rcases ad with ⟨rfl, nil⟩ | ⟨rfl, s', d', base', B', sp, m'⟩
    · refine ⟨h1, ?_, FF1, by rw [nil]; exact I1⟩
      rw [X9_runAll_B19, if_neg (by rw [nI_lI (by omega) (by omega)]; omega), G_t C.g.c145, C.g.r145_0, G_t C.g.c146, e1, BN_ok, if_pos (by decide), nil]; rfl
    · have ml' := mu_lt C.x B'
      have C1 := C.fq FF1 (fun a c => ExA_n c)
      have s3 : s' ≤ 3 := Nat.le_trans B'.sT C.x
      obtain ⟨h2, e2, F2, B2, v2⟩ := spread_c C1 N120 ao B'
      have g2 := g1.fr F2
      have FF2 : Fq ExA h h2 := FF1.tr (F2.q.mo (fun x q => by unfold SpA at q; unfold ExA; omega))
      have C2 := C.fq FF2 (fun a c => ExA_n c)
      have I2 : IsN h2 164 3 f := I1.fr F2 (by unfold SpA; omega) (by unfold SpA; omega)
      rw [sp, exL_app]
      have hdr : X9_runAll_B19 (n + 1) 145 wk (nI sum) (nI i) h = if (lg_cmp (xL h2 146 7) (lN 0)) = 0 then X9_runAll_B125 (X9_runAll_B19 n) 145 wk (nI sum) (nI i) h2 else (G (xc h2 145 = 9) <| G (xc h2 (xR h2 145 8) = 2) <| BN (X2_go_f (xR h2 145 8) wk (xR h2 145 2) h2) fun _ h12 => G (xc h12 145 = 9) <| G (xc h12 (xR h12 145 8) = 2) <| G (xc h12 (xR h12 145 0) = 5) <| LT ((xL h12 (xR h12 145 8) 5) &&& (xL h12 (xR h12 145 0) 7)) fun w16 => if (lg_cmp w16 (lN 0)) = 0 then X9_runAll_B117 (X9_runAll_B19 n) 145 wk (nI sum) (nI i) w16 h12 else if nI sum = 0 then (G (xc h12 145 = 9) <| BN (J13_numberOfTrailingZeros_95d88_f w16 h12) fun v19 h18 => G (xc h18 145 = 9) <| G (xc h18 (xR h12 145 0) = 5) <| BN (X5_writeSet_f (xR h12 145 0) v19 (xR h18 145 6) h18) fun _ h22 => X9_runAll_B117 (X9_runAll_B19 n) 145 wk (nI sum) (nI i) w16 h22) else X9_runAll_B117 (X9_runAll_B19 n) 145 wk (nI sum) (nI i) w16 h12) := by
        rw [X9_runAll_B19, if_neg (by rw [nI_lI (by omega) (by omega)]; omega), G_t C.g.c145, C.g.r145_0, G_t C.g.c146, e1, BN_ok, if_neg (by decide), G_t g1.c145, g1.r145_0, G_t g1.c146, g1.r145_2, e2, BN_ok, G_t g2.c145, g2.r145_0, G_t g2.c146]
      rw [hdr]
      have nx : ∀ su h', X9_runAll_B125 (X9_runAll_B19 n) 145 wk su (nI i) h' = X9_runAll_B19 n 145 wk su (nI (i + 1)) h' := fun su h' => by
        unfold X9_runAll_B125
        rw [LT_e, nI_add]
      by_cases op : xL h2 146 7 = lN 0
      · have emp : exL p (sum, f) (seg a r s' (d' * 128 + base') 64) = (sum, f) := by
          have : seg a r s' (d' * 128 + base') 64 = [] := seg_nil (fun v h1 h2 => by
            have := (v2 (v - (d' * 128 + base')) (by omega)).1
            rw [op, tl_n0, show d' * 128 + base' + (v - (d' * 128 + base')) = v by omega] at this
            exact this.symm)
          rw [this]; rfl
        rw [if_pos (cmp0.mpr op), nx, emp]
        obtain ⟨h9, e9, F9, I9⟩ := ih s' (d' * 128 + base' + 64) (muA s' d' base') n (i + 1) sum f h2 (by omega) (by omega) (by omega) (by omega) C2 (.inr ⟨d', base', B2, rfl, rfl⟩) I2
        exact ⟨h9, e9, FF2.tr F9, I9⟩
      · obtain ⟨h3, e3, F3, _, _, v3⟩ := go_ok g2 g2.l2 C2.w C2.q C.n C.y
        have g3 := g2.fq F3
        have FF3 : Fq ExA h h3 := FF2.tr (F3.mo (fun x q => by unfold ExA; omega))
        have C3 := C.fq FF3 (fun a c => ExA_n c)
        have B3 := B2.fq F3 (fun x q => by omega)
        have I3 : IsN h3 164 3 f := I2.fq F3 (by decide) (by omega) (by omega)
        have o3 : xL h3 146 7 = xL h2 146 7 := F3.L 7 (by omega)
        generalize hw : xL h3 174 5 &&& xL h3 146 7 = w
        have hwB : ∀ j, j < 64 → tl w j = exB p (PS a r s') (sL a s') (d' * 128 + base' + j) := fun j hj => by
          rw [← hw, tl_and, o3, (v2 j hj).1, (v3 j hj).2.2.1]
          unfold exB
          cases hp : PS a r s' (d' * 128 + base' + j)
          · rw [Bool.and_false, Bool.false_and]
          · rw [(v2 j hj).2 hp, outB_2, Bool.and_true, Bool.true_and]
        obtain ⟨x1, x2, x3, x4⟩ := exL_seg (p := p) (n := sum) (f := f) hwB
        obtain ⟨bc, b64⟩ := bitCount64 (x := w) (h := h3)
        have run : ∀ h' f', CaX_ h' wk b p r → BuS h' a (r 0 + r 1 + r 2 + r 3) s' d' base' → Fq ExA h h' → IsN h' 164 3 f' → exL p (sum, f) (seg a r s' (d' * 128 + base') 64) = (sum + cn64 w, f') → ∃ h9, X9_runAll_B117 (X9_runAll_B19 n) 145 wk (nI sum) (nI i) w h' = some (nI (exL p (exL p (sum, f) (seg a r s' (d' * 128 + base') 64)) (RSt a r (r 0 + r 1 + r 2 + r 3) s' (d' * 128 + base' + 64))).1, h9) ∧ Fq ExA h h9 ∧ IsN h9 164 3 (exL p (exL p (sum, f) (seg a r s' (d' * 128 + base') 64)) (RSt a r (r 0 + r 1 + r 2 + r 3) s' (d' * 128 + base' + 64))).2 := fun h' f' C' B' F' I' ee => by
          obtain ⟨h9, e9, F9, I9⟩ := ih s' (d' * 128 + base' + 64) (muA s' d' base') n (i + 1) (sum + cn64 w) f' h' (by omega) (by omega) (by omega) (by omega) C' (.inr ⟨d', base', B', rfl, rfl⟩) I'
          rw [ee]
          refine ⟨h9, ?_, F'.tr F9, I9⟩
          unfold X9_runAll_B117
          rw [(bitCount64 (x := w) (h := h')).1, BN_ok, nI_add, LT_e, nx]; exact e9
        rw [if_neg (fun q => op (cmp0.mp q)), G_t g2.c145, g2.r145_8, G_t g2.c174, g2.r145_2, e3, BN_ok, G_t g3.c145, g3.r145_8, G_t g3.c174, g3.r145_0, G_t g3.c146, LT_e, hw]
        by_cases wz : w = lN 0
        · rw [if_pos (cmp0.mpr wz)]
          exact run h3 f C3 B3 FF3 I3 (Prod.ext x1 (x2 wz))
        · rw [if_neg (fun q => wz (cmp0.mp q))]
          by_cases su : sum = 0
          · obtain ⟨t, t64, tlo, t1⟩ := low64 wz
            have pt : PS a r s' (d' * 128 + base' + t) = true := by
              have := hwB t t64
              rw [t1] at this
              unfold exB at this
              exact ((Bool.and_eq_true _ _).mp this.symm).1
            have bN : base' + t < a.length := by
              obtain ⟨e, rfl⟩ : ∃ e, s' = e + 1 := ⟨s' - 1, by have := B'.s1; omega⟩
              have bb := B'.b
              have hd : d' < 128 ^ e := B'.d
              have hv : d' * 128 + base' + t < 128 ^ (e + 1) := by
                rw [pw_s]
                have := Nat.mul_le_mul_right 128 (Nat.succ_le_of_lt hd)
                omega
              have V := ((Bool.and_eq_true _ _).mp (show (vld a.length (sD (e + 1) (d' * 128 + base' + t)) && _) = true from pt)).1
              have := vld_last (by omega) hv V
              omega
            obtain ⟨h4, e4, F4, I4⟩ := writeSet_c (na := 164) C3 N120 B3 I3.nus (.inr rfl) t64 bN
            have g4 := g3.fr F4
            have FF4 : Fq ExA h h4 := FF3.tr (F4.q.mo (fun x q => by unfold ExA; omega))
            rw [if_pos (by rw [su]; exact nI_0), ntz64 t64 tlo t1, BN_ok, G_t g3.c145, G_t g3.c145, G_t g3.c146, g3.r145_6, e4, BN_ok]
            exact run h4 _ (C.fq FF4 (fun a c => ExA_n c)) (B3.fq F4.q (fun x q => by omega)) FF4 I4 (Prod.ext x1 (x4 su t t64 tlo t1))
          · rw [if_neg (nI_ne0 (by omega) (by omega))]
            exact run h3 f C3 B3 FF3 I3 (Prod.ext x1 (x3 su))
theorem runAll_f {h : AH} {wk b : Nat} {p : PR} {r : NN_} (C : CaX_ h wk b p r) (ns : NuS h 164 3) : ∃ h', X9_runAll_f 145 wk h = some (nI (exL p (0, []) (ups (alF p r) r 1 (r 0 + r 1 + r 2 + r 3))).1, h') ∧ Fq ExA h h' ∧ IsN h' 164 3 (exL p (0, []) (ups (alF p r) r 1 (r 0 + r 1 + r 2 + r 3))).2 := by
  have N120 := alF_len (r := r) C.q.w C.y
  have ao : ∀ y, y ∈ alF p r → OKf y := fun y hy => (alF_ok C.q.w C.y hy).1
  have n0 : IsN (pI h 164 1 (nI 0)) 164 3 [] := ⟨ns.1, ns.2.1, ns.2.2.1, ns.2.2.2.1, by decide, by decide, xI_self, fun i hi => absurd hi (Nat.not_lt_zero _)⟩
  have F0 : Fr ExA h (pI h 164 1 (nI 0)) := Fr.i (by unfold ExA; omega)
  have C0 := C.fq F0.q (fun a c => ExA_n c)
  obtain ⟨h1, e1, F1, P1⟩ := begin_c C0
  have FF1 : Fq ExA h h1 := F0.q.tr (F1.q.mo (fun x q => by unfold PuA at q; unfold ExA; omega))
  obtain ⟨h2, e2, F2, I2⟩ := runAll_c (p := p) (r := r) N120 ao 131072 0 1 (muA 0 0 (alF p r).length) FU 0 0 [] h1 (by omega) (FU_gt (by omega)) (by omega) (by omega) (C.fq FF1 (fun a c => ExA_n c)) (.inl ⟨rfl, rfl, P1, rfl⟩) (n0.fr F1 (by unfold PuA; omega) (by unfold PuA; omega))
  have rs : RSt (alF p r) r (r 0 + r 1 + r 2 + r 3) 0 1 = ups (alF p r) r 1 (r 0 + r 1 + r 2 + r 3) := by
    unfold RSt
    rw [show 128 ^ 0 - 1 = 0 from rfl]; rfl
  rw [rs] at e2 I2
  refine ⟨h2, ?_, FF1.tr F2, I2⟩
  unfold X9_runAll_f
  rw [G_t C.g.c145, C.g.r145_6, G_t ns.1, nw_wipe ns.1, BN_ok, G_t C0.g.c145, C0.g.r145_0, G_t C0.g.c146, e1, BN_ok]
  exact e2
