/-! the law's loop: every call, one after the other -/
def IV_ (h : AH) : Prop := ∃ bo p b m z l lm s r lo lx, INV h bo p b m z l lm s r lo lx
/-- the end is good, within the room -/
def LQ (o : Option (Int32 × AH)) : Prop := ∃ h', o = some (1, h') ∧ xn h' ≤ 227 + 640 * 512 ∧ xs h' ≤ 100001 + 11400 * 512
theorem LQ.g {c : Prop} [Decidable c] {f : Option (Int32 × AH)} (hc : c) (q : LQ f) : LQ (G c f) := by rw [G_t hc]; exact q
theorem LQ.ite {c : Prop} [Decidable c] {A B : Option (Int32 × AH)} (a : LQ A) (b : LQ B) : LQ (if c then A else B) := by
  by_cases q : c
  · rw [if_pos q]; exact a
  · rw [if_neg q]; exact b
theorem LQ.p {cl mo : AH → Option (Int32 × AH)} {h : AH} {M : Int32 → AH → Option (Int32 × AH)} {K : AH → Option (Int32 × AH)} (P : Pair cl mo h) (k : ∀ h2, IV_ h2 → xn h2 ≤ xn h + 640 → xs h2 ≤ xs h + 11400 → LQ (K h2)) (m : ∀ v h1, xc h1 195 = 15 → M v h1 = BN (mo h1) fun w h2 => if v = w then K h2 else some (nI 0, h2)) : LQ (BN (cl h) M) := by
  obtain ⟨v, h1, h2, e1, c1, e2, i2, n2, s2⟩ := P
  rw [e1, BN_ok, m v h1 c1, e2, BN_ok, if_pos rfl]
  exact k h2 i2 n2 s2
theorem LQ.t {cl mo : AH → Option (Int32 × AH)} {h : AH} {M : Int32 → AH → Option (Int32 × AH)} {K : AH → Option (Int32 × AH)} (P : PairT cl mo h) (k : ∀ h2, IV_ h2 → xn h2 ≤ xn h + 640 → xs h2 ≤ xs h + 11400 → LQ (K h2)) (m : ∀ v h1, xc h1 195 = 15 → M v h1 = BN (mo h1) fun w h2 =>
        G (xc h2 195 = 15) <|
        BN (X15_thrown_f 195 h2) fun v130 h129 =>
        if v130 = v then (
          if v = 0 then (
            G (xc h129 226 = 17) <|
            G (gx (nI 0) (xz h129 226)) <|
            if (lg_cmp (xL h129 226 (nI 0).toNatClampNeg) (w.toInt64)) = 0 then (
              K h129
            ) else (
              some (nI 0, h129)
            )
          ) else (
            K h129
          )
        ) else (
          some (nI 0, h129)
        )) : LQ (BN (cl h) M) := by
  obtain ⟨th, w, h1, h2, e1, c1, e2, e3, e4, i2, n2, s2⟩ := P
  have g2 : SG h2 := by
    obtain ⟨bo, p, b, m, z, l, lm, s, r, lo, lx, i⟩ := i2
    exact i.g
  have t2 : X15_thrown_f 195 h2 = some (th, h2) := by
    unfold X15_thrown_f
    rw [G_t g2.c195, e3]
  rw [e1, BN_ok, m th h1 c1, e2, BN_ok, G_t g2.c195, t2, BN_ok, if_pos rfl]
  have kk := k h2 i2 n2 s2
  by_cases q : th = 0
  · rw [if_pos q, G_t g2.c226, g2.z226, G_gx (by decide) (by decide), nI_cl (by decide), if_pos (cmpE.mpr (e4 q))]
    exact kk
  · rw [if_neg q]
    exact kk
theorem lw_end {L k : Nat} (hL : L ≤ 3072) (hk : 6 * k ≤ L + 5) : (nI L - nI 6) < nI (6 * k) ↔ L < 6 * k + 6 := by
  by_cases q : 6 ≤ L
  · rw [pk_sub q, nI_tI (by omega) (by omega)]; omega
  · have : ∀ L, L < 6 → ∀ k, k < 2 → (nI L - nI 6) < nI (6 * k) := by decide +kernel
    exact ⟨fun _ => by omega, fun _ => this L (by omega) k (by omega)⟩
theorem lw_gx {L a c : Nat} (h : a + c < L) (hL : L ≤ 3072) : gx (nI a + nI c) L := by rw [nI_add]; exact gx_n h (by omega)
theorem lw_st {a b c d k : Nat} (h1 : b ≤ a + d) (h2 : a ≤ c + d * k) : b ≤ c + d * (k + 1) := by
  rw [Nat.mul_succ, ← Nat.add_assoc]
  exact Nat.le_trans h1 (Nat.add_le_add_right h2 d)
theorem law_loop {sc : Nat → Int32} {L : Nat} (hL : L ≤ 3072) : ∀ n k h, L + 6 ≤ 6 * k + 6 * n → 6 * k ≤ L + 5 → IV_ h → xn h ≤ 227 + 640 * k → xs h ≤ 100001 + 11400 * k → LQ (L_law_B23 sc L n 1 195 226 (nI (6 * k)) h) := by
  intro n
  induction n with
  | zero => intro k h h1 h2; exact absurd h2 (by omega)
  | succ n ih =>
    intro k h h1 h2 iv nb sb
    rw [L_law_B23]
    by_cases q : L < 6 * k + 6
    · rw [if_pos ((lw_end hL h2).mpr q)]
      exact ⟨h, rfl, by omega, by omega⟩
    · rw [if_neg (fun c => q ((lw_end hL h2).mp c))]
      have K : ∀ h2, IV_ h2 → xn h2 ≤ xn h + 640 → xs h2 ≤ xs h + 11400 → LQ (L_law_B1181 sc L (L_law_B23 sc L n) 1 195 226 (nI (6 * k)) h2) := fun h2 i2 n2 s2 => by
        unfold L_law_B1181
        rw [LT_e, nI_add]
        have w1 : L + 6 ≤ 6 * (k + 1) + 6 * n := by omega
        have w2 : 6 * (k + 1) ≤ L + 5 := by omega
        have w3 : xn h2 ≤ 227 + 640 * (k + 1) := lw_st n2 nb
        have w4 : xs h2 ≤ 100001 + 11400 * (k + 1) := lw_st s2 sb
        have ii := ih (k + 1) h2 w1 w2 i2 w3 w4
        rw [show 6 * (k + 1) = 6 * k + 6 by omega] at ii
        exact ii
      have g1 : gx (nI (6 * k) + nI 1) L := lw_gx (by omega) hL
      have g2 : gx (nI (6 * k) + nI 2) L := lw_gx (by omega) hL
      have g3 : gx (nI (6 * k) + nI 3) L := lw_gx (by omega) hL
      have g4 : gx (nI (6 * k) + nI 4) L := lw_gx (by omega) hL
      have g5 : gx (nI (6 * k) + nI 5) L := lw_gx (by omega) hL
      have kb : LQ (L_law_B1181 sc L (L_law_B23 sc L n) 1 195 226 (nI (6 * k)) h) := K h iv (by omega) (by omega)
      obtain ⟨bo, p, b, m, z, l, lm, s, r, lo, lx, i⟩ := iv
      have c1 := i.g.c1
      refine LQ.g (gx_n (by omega) (by omega)) ?_
      refine LQ.ite ?_ ?_
      · refine LQ.g g1 ?_; refine LQ.g g2 ?_; refine LQ.g g3 ?_; refine LQ.g g4 ?_; refine LQ.g g5 ?_; refine LQ.g c1 ?_; refine LQ.p (pr_feed i _ _ _ _ _) K (fun v h1 c => ?_); rw [G_t g1, G_t g2, G_t g3, G_t g4, G_t g5, G_t c]
      refine LQ.ite ?_ ?_
      · refine LQ.g g1 ?_; refine LQ.g c1 ?_; refine LQ.p (pr_book i _) K (fun v h1 c => ?_); rw [G_t g1, G_t c]
      refine LQ.ite ?_ ?_
      · refine LQ.g c1 ?_; refine LQ.p (pr_fault i) K (fun v h1 c => ?_); rw [G_t c]
      refine LQ.ite ?_ ?_
      · refine LQ.g c1 ?_; refine LQ.p (pr_where i) K (fun v h1 c => ?_); rw [G_t c]
      refine LQ.ite ?_ ?_
      · refine LQ.g g1 ?_; refine LQ.g c1 ?_; refine LQ.p (pr_last i _) K (fun v h1 c => ?_); rw [G_t g1, G_t c]
      refine LQ.ite ?_ ?_
      · refine LQ.g g1 ?_; refine LQ.g g2 ?_; refine LQ.g c1 ?_; refine LQ.p (pr_purse i _ _) K (fun v h1 c => ?_); rw [G_t g1, G_t g2, G_t c]
      refine LQ.ite ?_ ?_
      · refine LQ.g g1 ?_; refine LQ.g g2 ?_; refine LQ.g g3 ?_; refine LQ.g c1 ?_; refine LQ.p (pr_fall i _ _ _) K (fun v h1 c => ?_); rw [G_t g1, G_t g2, G_t g3, G_t c]
      refine LQ.ite ?_ ?_
      · refine LQ.g c1 ?_; refine LQ.p (pr_clear i) K (fun v h1 c => ?_); rw [G_t c]
      refine LQ.ite ?_ ?_
      · refine LQ.g c1 ?_; refine LQ.p (pr_run i) K (fun v h1 c => ?_); rw [G_t c]
      refine LQ.ite ?_ ?_
      · refine LQ.g g1 ?_; refine LQ.g g2 ?_; refine LQ.g g3 ?_; refine LQ.g c1 ?_; refine LQ.p (pr_there i _ _ _) K (fun v h1 c => ?_); rw [G_t g1, G_t g2, G_t g3, G_t c]
      refine LQ.ite ?_ ?_
      · refine LQ.g g1 ?_; refine LQ.g g2 ?_; refine LQ.g g3 ?_; refine LQ.g c1 ?_; refine LQ.p (pr_reasons i _ _ _) K (fun v h1 c => ?_); rw [G_t g1, G_t g2, G_t g3, G_t c]
      refine LQ.ite ?_ ?_
      · refine LQ.g g1 ?_; refine LQ.g g2 ?_; refine LQ.g g3 ?_; refine LQ.g g4 ?_; refine LQ.t (pr_reason i _ _ _ _) K (fun v h1 c => ?_); rw [G_t g1, G_t g2, G_t g3, G_t g4, G_t c]; rfl
      refine LQ.ite ?_ ?_
      · refine LQ.g g1 ?_; refine LQ.g g2 ?_; refine LQ.g c1 ?_; refine LQ.p (pr_word i _ _) K (fun v h1 c => ?_); rw [G_t g1, G_t g2, G_t c]
      refine LQ.ite ?_ ?_
      · refine LQ.g g1 ?_; refine LQ.g c1 ?_; refine LQ.p (pr_differs i _) K (fun v h1 c => ?_); rw [G_t g1, G_t c]
      refine LQ.ite ?_ ?_
      · refine LQ.g c1 ?_; refine LQ.p (pr_spoils i) K (fun v h1 c => ?_); rw [G_t c]
      refine LQ.ite ?_ ?_
      · refine LQ.g g1 ?_; refine LQ.g g2 ?_; refine LQ.g g3 ?_; refine LQ.g c1 ?_; refine LQ.p (pr_stands i _ _ _) K (fun v h1 c => ?_); rw [G_t g1, G_t g2, G_t g3, G_t c]
      refine LQ.ite ?_ ?_
      · refine LQ.g g1 ?_; refine LQ.g c1 ?_; refine LQ.p (pr_trial i _) K (fun v h1 c => ?_); rw [G_t g1, G_t c]
      refine LQ.ite ?_ ?_
      · refine LQ.g c1 ?_; refine LQ.p (pr_tried i) K (fun v h1 c => ?_); rw [G_t c]
      refine LQ.ite ?_ ?_
      · refine LQ.g c1 ?_; refine LQ.p (pr_known i) K (fun v h1 c => ?_); rw [G_t c]
      refine LQ.ite ?_ ?_
      · refine LQ.g g1 ?_; refine LQ.g c1 ?_; refine LQ.p (pr_found i _) K (fun v h1 c => ?_); rw [G_t g1, G_t c]
      refine LQ.ite ?_ ?_
      · refine LQ.g c1 ?_; refine LQ.p (pr_exact i) K (fun v h1 c => ?_); rw [G_t c]
      refine LQ.ite ?_ ?_
      · refine LQ.g g1 ?_; refine LQ.g c1 ?_; refine LQ.p (pr_exactly i _) K (fun v h1 c => ?_); rw [G_t g1, G_t c]
      refine LQ.ite ?_ ?_
      · refine LQ.g c1 ?_; refine LQ.p (pr_cut i) K (fun v h1 c => ?_); rw [G_t c]
      refine LQ.ite ?_ ?_
      · refine LQ.g g1 ?_; refine LQ.g c1 ?_; refine LQ.p (pr_told i _) K (fun v h1 c => ?_); rw [G_t g1, G_t c]
      refine LQ.ite ?_ ?_
      · refine LQ.g g1 ?_; refine LQ.g c1 ?_; refine LQ.p (pr_start i _) K (fun v h1 c => ?_); rw [G_t g1, G_t c]
      refine LQ.ite ?_ ?_
      · refine LQ.g c1 ?_; refine LQ.p (pr_thin i) K (fun v h1 c => ?_); rw [G_t c]
      refine LQ.ite ?_ ?_
      · refine LQ.g c1 ?_; refine LQ.p (pr_thinness i) K (fun v h1 c => ?_); rw [G_t c]
      refine LQ.ite ?_ ?_
      · refine LQ.g g1 ?_; refine LQ.t (pr_led i _) K (fun v h1 c => ?_); rw [G_t g1, G_t c]; rfl
      refine LQ.ite ?_ ?_
      · refine LQ.g g1 ?_; refine LQ.g g2 ?_; refine LQ.g c1 ?_; refine LQ.p (pr_mend i _ _) K (fun v h1 c => ?_); rw [G_t g1, G_t g2, G_t c]
      refine LQ.ite ?_ ?_
      · refine LQ.g c1 ?_; refine LQ.p (pr_keep i) K (fun v h1 c => ?_); rw [G_t c]
      refine LQ.ite ?_ ?_
      · refine LQ.g g1 ?_; refine LQ.g c1 ?_; refine LQ.p (pr_fit i _) K (fun v h1 c => ?_); rw [G_t g1, G_t c]
      refine LQ.ite ?_ ?_
      · refine LQ.g c1 ?_; refine LQ.p (pr_least i) K (fun v h1 c => ?_); rw [G_t c]
      refine LQ.ite ?_ ?_
      · refine LQ.g g1 ?_; refine LQ.g c1 ?_; refine LQ.p (pr_make i _) K (fun v h1 c => ?_); rw [G_t g1, G_t c]
      refine LQ.ite ?_ ?_
      · refine LQ.g g1 ?_; refine LQ.g c1 ?_; refine LQ.p (pr_count i _) K (fun v h1 c => ?_); rw [G_t g1, G_t c]
      refine LQ.ite ?_ ?_
      · refine LQ.g c1 ?_; refine LQ.p (pr_trouble i) K (fun v h1 c => ?_); rw [G_t c]
      exact kb
