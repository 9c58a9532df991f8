/-- the promise: the fault, where, the book -/
def PrO (h h' : AH) (T : Nat → Int32) (n b : Nat) (N : NmL) (w : Int32) (x : Nat × Nat × BK) : Prop := Fz (DrA b) h h' ∧ CfC h' T n ∧ CtC h' T n x.2.1 ∧ (x.1 = 0 → w = nI 1 ∧ IsCB h' b x.2.2 ∧ xR h' 58 10 = b) ∧ (x.1 ≠ 0 → w = nI 0 ∧ xI h' 58 9 = nI x.1)
theorem plX_ok {T : Nat → Int32} {n s : Nat} {N : NmL} {R M : Nat} (hR : ∀ w, 4 ≤ lkV N w → lkV N w < 99 → lkV N w - 4 < R) (hM : ∀ w, lkV N w < 4 → lkV N w < M) : ∀ r q, (plX T n N s r q).2.2.length ≤ r ∧ ∀ x, x ∈ (plX T n N s r q).2.2 → x.1 < R ∧ x.2 < M := by
  intro r
  induction r with
  | zero =>
    intro q
    unfold plX
    by_cases z : faR T n N q = 0
    · rw [if_pos z]; exact ⟨Nat.le_refl _, fun x hx => nomatch hx⟩
    · rw [if_neg z]; exact ⟨Nat.le_refl _, fun x hx => nomatch hx⟩
  | succ r ih =>
    intro q
    obtain ⟨i1, i2⟩ := ih (nxT T n (nxT T n (nxT T n (nxT T n q))))
    unfold plX plY
    by_cases z : faR T n N q = 0
    · have z' : 4 ≤ lkV N (wdV T n q) ∧ lkV N (wdV T n q) < 99 := by
        unfold faR at z
        by_cases k : isN T n q = true
        · rw [if_pos k] at z
          by_cases w : 4 ≤ lkV N (wdV T n q) ∧ lkV N (wdV T n q) < 99
          · exact w
          · rw [if_neg w] at z; exact absurd z (by decide)
        · rw [if_neg k] at z; exact absurd z (by decide)
      rw [if_pos z]
      by_cases y : faW T n (nxT T n q) 1 = 0
      · rw [if_pos y]
        by_cases m : faM T n N (nxT T n (nxT T n q)) = 0
        · have m' : lkV N (wdV T n (nxT T n (nxT T n q))) < 4 := by
            unfold faM at m
            by_cases k : isN T n (nxT T n (nxT T n q)) = true
            · rw [if_pos k] at m
              by_cases w : lkV N (wdV T n (nxT T n (nxT T n q))) < 4
              · exact w
              · rw [if_neg w] at m; exact absurd m (by decide)
            · rw [if_neg k] at m; exact absurd m (by decide)
          have hx : lkV N (wdV T n q) - 4 < R ∧ lkV N (wdV T n (nxT T n (nxT T n q))) < M := ⟨hR _ z'.1 z'.2, hM _ m'⟩
          rw [if_pos m]
          by_cases o : isW T n (nxT T n (nxT T n (nxT T n q))) s = true
          · rw [if_pos o]
            refine ⟨Nat.succ_le_succ i1, fun x g => ?_⟩
            rcases List.mem_cons.mp g with e | e
            · rw [e]; exact hx
            · exact i2 x e
          · rw [if_neg o]
            refine ⟨Nat.succ_le_succ (Nat.zero_le _), fun x g => ?_⟩
            rcases List.mem_cons.mp g with e | e
            · rw [e]; exact hx
            · exact nomatch e
        · rw [if_neg m]; exact ⟨Nat.zero_le _, fun x hx => nomatch hx⟩
      · rw [if_neg y]; exact ⟨Nat.zero_le _, fun x hx => nomatch hx⟩
    · rw [if_neg z]; exact ⟨Nat.zero_le _, fun x hx => nomatch hx⟩
theorem plG_m {l : PlL} {i : Nat} (h : i < l.length) : plG l i ∈ l := by
  have e : plG l i = l[i] := by unfold plG; rw [List.getD_eq_getElem?_getD, List.getElem?_eq_getElem h]; rfl
  rw [e]; exact List.getElem_mem h
theorem prB_e {B : BK} {x y : PlL} {k i : Nat} (h : k < 60) : prB B x y k i = B k i := by
  unfold prB
  rw [if_neg (by omega), if_neg (by omega), if_neg (by omega), if_neg (by omega), if_neg (by omega), if_neg (by omega)]
theorem WB_p {B : BK} {x y : PlL} (w : WB B) (hx : x.length ≤ 3 ∧ ∀ e, e ∈ x → e.1 < B 1 0 ∧ e.2 < B 0 0) (hy : y.length ≤ 3 ∧ ∀ e, e ∈ y → e.1 < B 1 0 ∧ e.2 < B 0 0) : WB (prB B x y) := by
  have cg : ∀ c, c < 16 → WC B c → WC (prB B x y) c := fun c hc q => q.cg (by rw [prB_e (by decide)]; exact Nat.le_refl _) (by rw [prB_e (by decide)]; exact Nat.le_refl _) (fun k hk => prB_e (by omega)) (fun i => prB_e (by omega)) (fun i => prB_e (by omega))
  have u := w.u
  have s := w.s
  refine ⟨w.m, w.r, w.f, w.u, w.s, w.y, w.k, w.fr, w.fm, w.fy, fun i hi => cg _ (by rw [prB_e (by decide)] at hi; omega) (w.ru i hi), fun i hi => cg _ (by rw [prB_e (by decide)] at hi; omega) (w.se i hi), w.nw, fun i hi z k hk => ?_, w.sp, w.st, hx.1, hy.1, fun i hi => (hx.2 _ (plG_m hi)).1, fun i hi => (hx.2 _ (plG_m hi)).2, fun i hi => (hy.2 _ (plG_m hi)).1, fun i hi => (hy.2 _ (plG_m hi)).2⟩
  rw [prB_e (by decide)] at hi
  rw [prB_e (by omega)]; exact w.nn i hi z k hk
