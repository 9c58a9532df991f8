def isLe (f : Nat → Bool) (N : Nat) : Option Nat → Prop
  | none => ∀ j, j < N → f j = false
  | some r => r < N ∧ f r = true ∧ ∀ j, j < N → f j = true → bcN r < bcN j ∨ (bcN r = bcN j ∧ r ≤ j)
theorem isLe_u {f : Nat → Bool} {N : Nat} {r q : Option Nat} (a : isLe f N r) (b : isLe f N q) : r = q := by
  cases r with
  | none =>
    cases q with
    | none => rfl
    | some q => have := a q b.1; rw [b.2.1] at this; exact nomatch this
  | some r =>
    cases q with
    | none => have := b r a.1; rw [a.2.1] at this; exact nomatch this
    | some q =>
      have h1 := a.2.2 q b.1 b.2.1
      have h2 := b.2.2 r a.1 a.2.1
      have : r = q := by omega
      rw [this]
def leV : Option Nat → Int32
  | none => -1
  | some r => nI r
def leW : Option Nat → Int32
  | none => nI 6
  | some _ => nI 0
theorem leV_none : leV none = -1 := rfl
theorem leV_some {c : Nat} : leV (some c) = nI c := rfl
theorem leW_4 {r : Option Nat} : leW r ≠ nI 4 := by
  cases r with
  | none => decide
  | some _ => exact n4_0
theorem bcN_le : ∀ l, l < 7 → ∀ j, j < 2 ^ l → bcN j ≤ l := by decide +kernel
def ftB (p : PR) (lm : List Nat) (s : LLn) (j : Nat) : Bool := fitB (mdQ lm (nI j) lm.length p) s
theorem least_c {h : AH} {bo : Bool} {p : PR} {b m z : Nat} {l lm : List Nat} {s : LLn} {r : NN_} {lo lx : List Nat} (i : INV h bo p b m z l lm s r lo lx) (hb : bo = true) : ∃ r k', X11_least_B15 FU 1 (nI 0) h = some (leV r, pI k' 1 15 (leW r)) ∧ Fz (SCR m) h k' ∧ isLe (ftB p lm s) (2 ^ lm.length) r := by
  have l6 := i.m.n.n
  have p6 : 2 ^ lm.length ≤ 2 ^ 6 := Nat.pow_le_pow_right (by decide) l6
  generalize hf : ftB p lm s = f
  generalize hN : 2 ^ lm.length = N at p6
  have inner : ∀ (K : Nat → Int32 → AH → Option (Int32 × AH)) c, c < 8 → ∀ n b0 k, b0 ≤ N → N - b0 < n → Fz (SCR m) h k → (∀ j, j < N → f j = true → c ≤ bcN j) → (∀ j, j < b0 → f j = true → bcN j ≠ c) → (∃ r k', X11_least_B28 K n 1 (nI c) (nI b0) k = some (nI r, pI k' 1 15 (nI 0)) ∧ Fz (SCR m) h k' ∧ isLe f N (some r)) ∨ (∃ k', X11_least_B28 K n 1 (nI c) (nI b0) k = K 1 (nI (c + 1)) k' ∧ Fz (SCR m) h k' ∧ ∀ j, j < N → f j = true → c + 1 ≤ bcN j) := by
    intro K c hc n
    induction n with
    | zero => intro b0 k _ hn; exact absurd hn (Nat.not_lt_zero _)
    | succ n ih =>
      intro b0 k hb0 hn F lo ne
      have g := i.g.fz F
      have M := i.m.fz F (fun a k q => sM_ q)
      rcases Nat.lt_or_ge b0 N with hlt | hge
      · have b64 : b0 < 64 := by omega
        have bcl : bcN b0 ≤ 6 := bcN_le 6 (by decide) b0 b64
        have hd : X11_least_B28 K (n + 1) 1 (nI c) (nI b0) k = if nI (bcN b0) = nI c then (G (xc k 1 = 11) <| BN (X11_isFit_f 1 (nI b0) k) fun v7 h6 => if v7 = 0 then X11_least_B63 K (X11_least_B28 K n) 1 (nI c) (nI b0) h6 else X11_least_B57 1 (nI b0) h6) else X11_least_B63 K (X11_least_B28 K n) 1 (nI c) (nI b0) k := by
          rw [X11_least_B28]
          rw [G_t g.c1, g.r1_6, G_t M.n.c, M.n.s, shl1 _ (by omega), hN, if_neg (by rw [nI_lI (by omega) (by omega)]; omega), bitCount_c b0 b64, BN_ok]
        have next : ∀ k2, X11_least_B63 K (X11_least_B28 K n) 1 (nI c) (nI b0) k2 = X11_least_B28 K n 1 (nI c) (nI (b0 + 1)) k2 := fun k2 => by
          unfold X11_least_B63
          rw [LT_e, nI_add]
        by_cases e : bcN b0 = c
        · obtain ⟨k2, e2, F2⟩ := isFit_c i hb F (nI b0)
          have ef : fitB (mdQ lm (nI b0) lm.length p) s = f b0 := by rw [← hf]; rfl
          have g2 := i.g.fz F2
          rw [hd, if_pos (by rw [e]), G_t g.c1, e2, BN_ok, ef]
          cases ff : f b0
          · rw [if_pos (by decide), next]
            refine ih (b0 + 1) k2 (by omega) (by omega) F2 lo (fun j hj hfj => ?_)
            by_cases ej : j = b0
            · rw [ej, ff] at hfj; exact nomatch hfj
            · exact ne j (by omega) hfj
          · rw [if_neg (by decide)]
            left
            refine ⟨b0, k2, ?_, F2, hlt, ff, fun j hj hfj => ?_⟩
            · unfold X11_least_B57
              rw [G_t g2.c1, grant_c g2, BN_ok]
            · have h1 := lo j hj hfj
              rcases Nat.lt_or_ge j b0 with q | q
              · have := ne j q hfj; omega
              · omega
        · rw [hd, if_neg (by rw [nI_eI (by omega) (by omega)]; exact e), next]
          refine ih (b0 + 1) k (by omega) (by omega) F lo (fun j hj hfj => ?_)
          by_cases ej : j = b0
          · rw [ej]; exact e
          · exact ne j (by omega) hfj
      · have : b0 = N := by omega
        subst this
        right
        refine ⟨k, ?_, F, fun j hj hfj => by have := lo j hj hfj; have := ne j hj hfj; omega⟩
        rw [X11_least_B28]
        rw [G_t g.c1, g.r1_6, G_t M.n.c, M.n.s, shl1 _ (by omega), hN, if_pos (by rw [nI_lI (by omega) (by omega)]; omega)]
        unfold X11_least_B69
        rw [LT_e, nI_add]
  have outer : ∀ n c k, c ≤ lm.length + 1 → lm.length + 1 - c < n → Fz (SCR m) h k → (∀ j, j < N → f j = true → c ≤ bcN j) → ∃ r k', X11_least_B15 n 1 (nI c) k = some (leV r, pI k' 1 15 (leW r)) ∧ Fz (SCR m) h k' ∧ isLe f N r := by
    intro n
    induction n with
    | zero => intro c k _ hn; exact absurd hn (Nat.not_lt_zero _)
    | succ n ih =>
      intro c k hc hn F lo
      have g := i.g.fz F
      have M := i.m.fz F (fun a k q => sM_ q)
      have hd : X11_least_B15 (n + 1) 1 (nI c) k = if nI lm.length < nI c then X11_least_B75 1 k else X11_least_B28 (X11_least_B15 n) FU 1 (nI c) (nI 0) k := by
        rw [X11_least_B15]
        rw [G_t g.c1, g.r1_6, G_t M.n.c, M.n.s]
      rw [hd, ]
      by_cases e : lm.length < c
      · refine ⟨none, k, ?_, F, fun j hj => ?_⟩
        · rw [if_pos (by rw [nI_tI (by omega) (by omega)]; exact e)]
          unfold X11_least_B75
          rw [G_t g.c1, refuse_c g, BN_ok]
          rfl
        · cases ff : f j
          · rfl
          · have h1 := lo j hj ff
            have h2 := bcN_le lm.length (by omega) j (by omega)
            omega
      · rw [if_neg (by rw [nI_tI (by omega) (by omega)]; exact e)]
        rcases inner (X11_least_B15 n) c (by omega) FU 0 k (Nat.zero_le _) (FU_gt (by omega)) F lo (fun j hj => absurd hj (Nat.not_lt_zero _)) with ⟨r, k', e1, F1, l1⟩ | ⟨k', e1, F1, l1⟩
        · exact ⟨some r, k', e1, F1, l1⟩
        · rw [e1]
          exact ih (c + 1) k' (by omega) (by omega) F1 l1
  exact outer FU 0 h (Nat.zero_le _) (FU_gt (by omega)) Fz.rf (fun j _ _ => Nat.zero_le _)
theorem least_m {h k : AH} {bo : Bool} {p : PR} {b m z : Nat} {l lm : List Nat} {s : LLn} {r : NN_} {lo lx : List Nat} (i : INV h bo p b m z l lm s r lo lx) (hb : bo = true) (F : Fz (SCR m) h k) : ∃ r k', X15_least_B22 FU 195 (-1) (nI 0) k = some (leV r, pI (pI k' 195 1 (leW r)) 195 2 (-1)) ∧ Fz (fun a _ => (203 ≤ a ∧ a ≤ 205) ∨ (210 ≤ a ∧ a ≤ 214)) k k' ∧ isLe (ftB p lm s) (2 ^ lm.length) r := by
  have l6 := i.m.n.n
  have p6 : 2 ^ lm.length ≤ 2 ^ 6 := Nat.pow_le_pow_right (by decide) l6
  generalize hf : ftB p lm s = f
  generalize hN : 2 ^ lm.length = N at p6
  have loop : ∀ n b0 r (k0 : AH), b0 ≤ N → N - b0 < n → Fz (fun a _ => (203 ≤ a ∧ a ≤ 205) ∨ (210 ≤ a ∧ a ≤ 214)) k k0 → isLe f b0 r → ∃ r' k', X15_least_B22 n 195 (leV r) (nI b0) k0 = some (leV r', pI (pI k' 195 1 (leW r')) 195 2 (-1)) ∧ Fz (fun a _ => (203 ≤ a ∧ a ≤ 205) ∨ (210 ≤ a ∧ a ≤ 214)) k k' ∧ isLe f N r' := by
    intro n
    induction n with
    | zero => intro b0 r k _ hn; exact absurd hn (Nat.not_lt_zero _)
    | succ n ih =>
      intro b0 r k0 hb0 hn F0 le
      have Fh : Fz (SCR m) h k0 := F.tr (F0.mo (fun a k q => FmA_scr q))
      have g := i.g.fz Fh
      have M := i.m.fz Fh (fun a k q => sM_ q)
      rcases Nat.lt_or_ge b0 N with hlt | hge
      · have b64 : b0 < 64 := by omega
        have bcl : bcN b0 ≤ 6 := bcN_le 6 (by decide) b0 b64
        have next : ∀ v k2, X15_least_B58 (X15_least_B22 n) 195 v (nI b0) k2 = X15_least_B22 n 195 v (nI (b0 + 1)) k2 := fun v k2 => by
          unfold X15_least_B58
          rw [LT_e, nI_add]
        obtain ⟨k2, e2, F2⟩ := isFit_m i hb Fh (nI b0)
        have ef : fitB (mdQ lm (nI b0) lm.length p) s = f b0 := by rw [← hf]; rfl
        rw [ef] at e2
        have b48 : ∀ v, X15_least_B48 (X15_least_B22 n) 195 v (nI b0) k0 = X15_least_B22 n 195 (if f b0 then nI b0 else v) (nI (b0 + 1)) k2 := fun v => by
          unfold X15_least_B48
          rw [G_t g.c195, e2, BN_ok]
          cases f b0
          · rw [if_pos (by decide), next]; rfl
          · rw [if_neg (by decide), next]; rfl
        have hd : ∀ v, X15_least_B22 (n + 1) 195 v (nI b0) k0 = if v = (-1) then X15_least_B48 (X15_least_B22 n) 195 v (nI b0) k0 else BN (X15_bits_f (nI b0) k0) fun v3 h2 => BN (X15_bits_f v h2) fun v5 h4 => if v5 ≤ v3 then X15_least_B58 (X15_least_B22 n) 195 v (nI b0) h4 else X15_least_B48 (X15_least_B22 n) 195 v (nI b0) h4 := fun v => by
          rw [X15_least_B22]
          rw [G_t g.c195, M.m, shl1 _ (by omega), hN, if_neg (by rw [nI_lI (by omega) (by omega)]; omega)]
        have F02 := F0.tr F2
        cases r with
        | none =>
          rw [hd, if_pos leV_none, b48]
          cases ff : f b0
          · exact ih (b0 + 1) none k2 (by omega) (by omega) F02 (fun j hj => by
              by_cases ej : j = b0
              · rw [ej]; exact ff
              · exact le j (by omega))
          · exact ih (b0 + 1) (some b0) k2 (by omega) (by omega) F02 ⟨by omega, ff, fun j hj hfj => by
              by_cases ej : j = b0
              · rw [ej]; exact .inr ⟨rfl, Nat.le_refl _⟩
              · have := le j (by omega); rw [this] at hfj; exact nomatch hfj⟩
        | some r =>
          have rl := le.1
          have rcl : bcN r ≤ 6 := bcN_le 6 (by decide) r (by omega)
          rw [hd]
          show ∃ r' k', (if nI r = (-1) then _ else _) = _ ∧ _
          rw [if_neg (by rw [nI_m1 (by omega)]; exact id), bits_m b0 b64, BN_ok]
          show ∃ r' k', (BN (X15_bits_f (nI r) k0) _) = _ ∧ _
          rw [bits_m r (by omega), BN_ok]
          by_cases e : bcN r ≤ bcN b0
          · rw [if_pos (by rw [nI_lI (by omega) (by omega)]; exact e), next]
            exact ih (b0 + 1) (some r) k0 (by omega) (by omega) F0 ⟨by omega, le.2.1, fun j hj hfj => by
              by_cases ej : j = b0
              · rw [ej]; omega
              · exact le.2.2 j (by omega) hfj⟩
          · rw [if_neg (by rw [nI_lI (by omega) (by omega)]; exact e), b48]
            cases ff : f b0
            · exact ih (b0 + 1) (some r) k2 (by omega) (by omega) F02 ⟨by omega, le.2.1, fun j hj hfj => by
                by_cases ej : j = b0
                · rw [ej, ff] at hfj; exact nomatch hfj
                · exact le.2.2 j (by omega) hfj⟩
            · exact ih (b0 + 1) (some b0) k2 (by omega) (by omega) F02 ⟨by omega, ff, fun j hj hfj => by
                by_cases ej : j = b0
                · rw [ej]; exact .inr ⟨rfl, Nat.le_refl _⟩
                · have := le.2.2 j (by omega) hfj; omega⟩
      · have : b0 = N := by omega
        subst this
        refine ⟨r, k0, ?_, F0, le⟩
        rw [X15_least_B22]
        rw [G_t g.c195, M.m, shl1 _ (by omega), hN, if_pos (by rw [nI_lI (by omega) (by omega)]; omega)]
        unfold X15_least_B64
        cases r with
        | none => rw [if_pos leV_none, G_t g.c195, refused_m g, BN_ok]; rfl
        | some r =>
          have rl := le.1
          show (if nI r = (-1) then _ else _) = _
          rw [if_neg (by rw [nI_m1 (by omega)]; exact id), G_t g.c195, done_m g, BN_ok]; rfl
  exact loop FU 0 none k (Nat.zero_le _) (FU_gt (by omega)) Fz.rf (fun j hj => absurd hj (Nat.not_lt_zero _))
theorem pr_least {h : AH} {bo : Bool} {p : PR} {b m z : Nat} {l lm : List Nat} {s : LLn} {r : NN_} {lo lx : List Nat} (i : INV h bo p b m z l lm s r lo lx) : Pair (X11_least_f 1) (X15_least_f 195) h := by
  have gi := fun (v : Int32) => (i.g.i (a := 1) (k := 15) (v := v))
  cases bo
  · have hr := (i.b.b0 rfl).mr
    refine Pair.no i (nI 1) (-1) n4_1 ?_ ?_
    · unfold X11_least_f
      rw [G_t i.g.c1, i.q.hb, if_pos (by decide), G_t i.g.c1, refuse_c i.g, BN_ok]
    · unfold X15_least_f
      rw [G_t (gi _).c195, LT_e, G_t (gi _).i.c195, xR_pI, xR_pI, if_pos hr, G_t (gi _).i.c195, refused_m (gi _).i, BN_ok]
  · have hr := mr_ne i rfl
    obtain ⟨r1, h1, e1, F1, l1⟩ := least_c i rfl
    have g1 := i.g.fz F1
    have FF : Fz (SCR m) h (pI (pI h1 1 15 (leW r1)) 195 0 (nI 0)) := (F1.tr (Fz.i scA)).tr (Fz.i sc0)
    have gg := i.g.fz FF
    obtain ⟨r2, k2, e2, F2, l2⟩ := least_m i rfl FF
    have er : r2 = r1 := isLe_u l2 l1
    subst er
    have hr2 : ¬ xR (pI (pI h1 1 15 (leW r2)) 195 0 (nI 0)) 195 4 = 0 := by rw [FF.r _ (by decide)]; exact hr
    refine ⟨leV r2, pI h1 1 15 (leW r2), pI (pI k2 195 1 (leW r2)) 195 2 (-1), ?_, g1.i.c195, ?_, ⟨_, _, _, _, _, _, _, _, _, _, _, i.fin (FF.tr (F2.mo (fun a k q => FmA_scr q))) leW_4 (by rw [F2.I (by decide), xI_ne (by omega), xI_self])⟩, by show xn k2 ≤ _; rw [F2.n, FF.n]; omega, by show xs k2 ≤ _; rw [F2.s, FF.s]; omega⟩
    · unfold X11_least_f
      rw [G_t i.g.c1, i.q.hb, if_neg (by decide)]; exact e1
    · unfold X15_least_f
      rw [G_t g1.i.c195, LT_e, G_t gg.c195, if_neg hr2]; exact e2
