/-! the class goes on to the next bundle -/
def ups (a : List Nat) (r : NN_) (s n : Nat) : List (List Nat) := (List.range' s n).flatMap fun s => seg a r s 0 (128 ^ s)
def RSt (a : List Nat) (r : NN_) (T s c : Nat) : List (List Nat) := seg a r s c (128 ^ s - c) ++ ups a r (s + 1) (T - s)
theorem ups_s {a : List Nat} {r : NN_} {s n : Nat} : ups a r s (n + 1) = seg a r s 0 (128 ^ s) ++ ups a r (s + 1) n := by
  unfold ups; rw [List.range'_succ, List.flatMap_cons]
theorem ups_nil {a : List Nat} {r : NN_} : ∀ n s, s + n ≤ 4 → a.length < s → ups a r s n = [] := by
  intro n
  induction n with
  | zero => intro s _ _; rfl
  | succ n ih => intro s h1 h2; rw [ups_s, ih (s + 1) (by omega) (by omega), List.append_nil]; exact seg_nil (fun v _ _ => by unfold PS; rw [fs_none (by omega) h2]; rfl)
section
variable {a : List Nat} {r : NN_} {s : Nat}
theorem skp {c c1 : Nat} (no : ∀ v, c ≤ v → v < c1 → PS a r s v = false) (h1 : c ≤ c1) (h2 : c1 ≤ 128 ^ s) : seg a r s c (128 ^ s - c) = seg a r s c1 (128 ^ s - c1) := by
  rw [show 128 ^ s - c = (c1 - c) + (128 ^ s - c1) by omega, seg_app, seg_nil (lo := c) (fun v h1 h2 => no v h1 (by omega)), List.nil_append, show c + (c1 - c) = c1 by omega]
theorem s64 {c : Nat} (h : c + 64 ≤ 128 ^ s) : seg a r s c (128 ^ s - c) = seg a r s c 64 ++ seg a r s (c + 64) (128 ^ s - (c + 64)) := by
  rw [show 128 ^ s - c = 64 + (128 ^ s - (c + 64)) by omega, seg_app]
end
theorem vld_last {N e v : Nat} (he : e ≤ 2) (hv : v < 128 ^ (e + 1)) (V : vld N (sD (e + 1) v) = true) : v % 128 < N := by
  have : e = 0 ∨ e = 1 ∨ e = 2 := by omega
  rcases this with rfl | rfl | rfl
  · have V : v < N := of_decide_eq_true V
    have hv : v < 128 := hv
    omega
  · have V : v / 128 < v % 128 ∧ v % 128 < N := of_decide_eq_true V
    exact V.2
  · have V : v / 128 / 128 < v / 128 % 128 ∧ v / 128 % 128 < v % 128 ∧ v % 128 < N := of_decide_eq_true V
    exact V.2.2
/-- no set between a stem's last lanes and the next stem -/
theorem gap {a : List Nat} {r : NN_} {e d d1 base : Nat} (he : e ≤ 2) (hb : a.length ≤ base + 64) (no : ∀ u, d < u → u < d1 → vld a.length (sD e u) = false) (hd1 : d1 ≤ 128 ^ e) : ∀ v, d * 128 + base + 64 ≤ v → v < d1 * 128 → PS a r (e + 1) v = false := by
  intro v h1 h2
  have pe : 128 ^ (e + 1) = 128 ^ e * 128 := Nat.pow_succ ..
  have h3 : v < 128 ^ (e + 1) := by rw [pe]; have := Nat.mul_le_mul_right 128 hd1; omega
  cases V : vld a.length (sD (e + 1) v)
  · unfold PS; rw [V]; rfl
  · have l1 := vld_last he h3 V
    have l2 := vld_st he V
    have : d < v / 128 := by omega
    have := no (v / 128) this (by omega)
    rw [l2] at this; exact nomatch this
theorem pw_s {e : Nat} : 128 ^ (e + 1) = 128 ^ e * 128 := Nat.pow_succ ..
theorem stem_scan {h : AH} {e N : Nat} {l : List Nat} (sg : SG h) (z : xI h 146 4 = nI N) (N120 : N ≤ 120) (pk : mL h 149 0 l) (hl : l.length = e) (he : e ≤ 2) (sa : e ≤ N) (top : ∀ j, j < e → l.getD j 0 + e ≤ N + j) : ∀ k n, k ≤ e → k < n → (∀ j, k ≤ j → j < e → l.getD j 0 + e = N + j) → ∃ kk, kk ≤ e ∧ (X5_advanceStem_B8 n 146 (nI e) (nI k - nI 1) h = if kk = 0 then some (nI 0, h) else X5_advanceStem_B29 146 (nI e) (nI (kk - 1)) h) ∧ (∀ j, kk ≤ j → j < e → l.getD j 0 + e = N + j) ∧ (kk = 0 ∨ l.getD (kk - 1) 0 + e ≠ N + (kk - 1)) := by
  intro k
  induction k with
  | zero =>
    intro n _ hn tp
    obtain ⟨n, rfl⟩ : ∃ q, n = q + 1 := ⟨n - 1, by omega⟩
    exact ⟨0, Nat.zero_le _, by rw [X5_advanceStem_B8, if_pos (by decide), if_pos rfl], tp, .inl rfl⟩
  | succ k ih =>
    intro n hk hn tp
    obtain ⟨n, rfl⟩ : ∃ q, n = q + 1 := ⟨n - 1, by omega⟩
    have s1 : nI (k + 1) - nI 1 = nI k := by rw [pk_sub (by omega)]; rfl
    have lk := top k (by omega)
    have v1 : xI h 149 (nI k).toNatClampNeg = nI (l.getD k 0) := by
      have := pk k (by omega)
      rw [Nat.zero_add] at this
      rw [nI_cl (by omega)]; exact this
    have hd : X5_advanceStem_B8 (n + 1) 146 (nI e) (nI (k + 1) - nI 1) h = if nI (N - e + k) ≤ nI (l.getD k 0) then X5_advanceStem_B8 n 146 (nI e) (nI k - nI 1) h else X5_advanceStem_B29 146 (nI e) (nI k) h := by
      rw [X5_advanceStem_B8, s1, if_neg (nI_pos (by omega)), G_t sg.c146, sg.r146_2, G_t sg.c149, sg.z149, G_gx (by omega) (by omega), v1, z, pk_sub sa, nI_add, LT_e, sub1]
    rw [hd]
    by_cases c : N - e + k ≤ l.getD k 0
    · rw [if_pos (by rw [nI_lI (by omega) (by omega)]; exact c)]
      exact ih n (by omega) (by omega) (fun j h1 h2 => by
        by_cases ej : j = k
        · rw [ej]; omega
        · exact tp j (by omega) h2)
    · rw [if_neg (by rw [nI_lI (by omega) (by omega)]; exact c)]
      exact ⟨k + 1, hk, by rw [if_neg (by omega)]; rfl, tp, .inr (by rw [Nat.add_sub_cancel]; omega)⟩
theorem stem_fill {h : AH} {e kk : Nat} {l : List Nat} (sg : SG h) (pk : mL h 149 0 l) (hl : l.length = e) (he : e ≤ 2) (hk : 1 ≤ kk) (hk2 : kk ≤ e) : ∃ h', X5_advanceStem_B29 146 (nI e) (nI (kk - 1)) h = some (nI 1, h') ∧ Fr (fun x => x = 149) h h' ∧ mL h' 149 0 (nxl l e kk) := by
  have cl : (nI (kk - 1)).toNatClampNeg = kk - 1 := nI_cl (by omega)
  have pk' : ∀ i, i < e → xI h 149 i = nI (l.getD i 0) := fun i hi => by
    have := pk i (by omega)
    rw [Nat.zero_add] at this; exact this
  have F0 : Fr (fun x => x = 149) h (pI h 149 (kk - 1) (nI (l.getD (kk - 1) 0 + 1))) := Fr.i rfl
  obtain ⟨h', ⟨_, F, v⟩, ee⟩ := loopE (F := fun n k h' => X5_advanceStem_B43 n 146 (nI e) (nI k) h') (E := fun h' => some (nI 1, h')) e (fun k h' => kk ≤ k ∧ Fr (fun x => x = 149) h h' ∧ ∀ i, i < k → i < e → xI h' 149 i = nI ((nxl l e kk).getD i 0)) (k := kk) hk2 (by omega) (h := pI h 149 (kk - 1) (nI (l.getD (kk - 1) 0 + 1))) ⟨Nat.le_refl _, F0, fun i h1 h2 => by
      rw [nxl_get h2]
      by_cases e : i = kk - 1
      · rw [e, xI_self, if_neg (by omega), show kk - 1 + 1 - kk = 0 by omega, Nat.add_zero]
      · rw [xI_ne (by omega), if_pos (by omega)]; exact pk' i h2⟩
    (by
      rintro n k h' hk ⟨hkk, F, v⟩
      have s' := sg.fr F
      have sk : nI k - nI 1 = nI (k - 1) := pk_sub (by omega)
      have v1 : xI h' 149 (nI (k - 1)).toNatClampNeg = nI ((nxl l e kk).getD (k - 1) 0) := by rw [nI_cl (by omega)]; exact v (k - 1) (by omega) (by omega)
      have ev : (nxl l e kk).getD (k - 1) 0 + 1 = (nxl l e kk).getD k 0 := by
        rw [nxl_get (by omega), nxl_get hk, if_neg (by omega), if_neg (by omega)]; omega
      refine ⟨pI h' 149 k (nI ((nxl l e kk).getD k 0)), ⟨by omega, F.tr (Fr.i rfl), fun i h1 h2 => ?_⟩, ?_⟩
      · by_cases e : i = k
        · rw [e, xI_self]
        · rw [xI_ne (by omega)]; exact v i (by omega) h2
      · show X5_advanceStem_B43 (n + 1) 146 (nI e) (nI k) h' = _
        rw [X5_advanceStem_B43]
        rw [if_neg (by rw [nI_lI (by omega) (by omega)]; omega), if_neg (by rw [nI_lI (by omega) (by omega)]; omega), G_t s'.c146, s'.r146_2, G_t s'.c149, s'.z149, sk, G_gx (by omega) (by omega), G_gx (by omega) (by omega), v1, nI_add, ev, LT_e, nI_cl (by omega), nI_add, LT_e])
    (by
      rintro n h' ⟨_, F, v⟩
      show X5_advanceStem_B43 (n + 1) 146 (nI e) (nI e) h' = _
      rw [X5_advanceStem_B43, if_pos (by rw [nI_lI (by omega) (by omega)]; omega)])
  refine ⟨h', ?_, F, fun i hi => by rw [nxl_len] at hi; rw [Nat.zero_add]; exact v i hi hi⟩
  have v0 : xI h 149 (nI (kk - 1)).toNatClampNeg = nI (l.getD (kk - 1) 0) := by rw [cl]; exact pk' (kk - 1) (by omega)
  unfold X5_advanceStem_B29
  rw [G_t sg.c146, sg.r146_2, G_t sg.c149, sg.z149, G_gx (by omega) (by omega), G_gx (by omega) (by omega), v0, nI_add, cl, LT_e, nI_add, show kk - 1 + 1 = kk by omega, LT_e]
  exact ee
/-- one fall more -/
theorem adv_54 {h : AH} {wk b s N : Nat} {p : PR} {r : NN_} (C : CaX_ h wk b p r) (z : xI h 146 4 = nI N) (N120 : N ≤ 120) (q5 : xI h 146 5 = nI s) (hs : s ≤ 3) : ∃ h', X5_advance_B54 146 h = some (bI (decide (s + 1 ≤ r 0 + r 1 + r 2 + r 3) && decide (s + 1 ≤ N)), h') ∧ Fr (fun x => x = 146 ∨ x = 149) h h' ∧ xI h' 146 4 = nI N ∧ xI h' 146 5 = nI (s + 1) ∧ xI h' 146 6 = xI h 146 6 ∧ ∀ i, i < s → i < 3 → xI h' 149 i = nI i := by
  have sg := C.g
  have x := C.x
  have F0 : Fr (fun x => x = 146 ∨ x = 149) h (pI h 146 5 (nI (s + 1))) := Fr.i (.inl rfl)
  have ss : nI (s + 1) - nI 1 = nI s := by rw [pk_sub (by omega)]; rfl
  have m3 : Nat.min s 3 = s := Nat.min_eq_left hs
  obtain ⟨h', ⟨F, w4, w5, w6, v⟩, e⟩ := loopE (F := fun n k h' => X5_advance_B66 n 146 (nI k) h') (E := fun h' => X5_advance_B94 146 h') s (fun k h' => Fr (fun x => x = 146 ∨ x = 149) h h' ∧ xI h' 146 4 = nI N ∧ xI h' 146 5 = nI (s + 1) ∧ xI h' 146 6 = xI h 146 6 ∧ ∀ i, i < k → xI h' 149 i = nI i) (Nat.zero_le _) (by omega) (h := pI h 146 5 (nI (s + 1))) ⟨F0, by rw [xI_ne (by omega)]; exact z, xI_self, by rw [xI_ne (by omega)], fun i hi => absurd hi (Nat.not_lt_zero _)⟩
    (by
      rintro n k h' hk ⟨F, w4, w5, w6, v⟩
      have s' := sg.fr F
      refine ⟨pI h' 149 k (nI k), ⟨F.tr (Fr.i (.inr rfl)), by rw [xI_ne (by omega)]; exact w4, by rw [xI_ne (by omega)]; exact w5, by rw [xI_ne (by omega)]; exact w6, fun i hi => ?_⟩, ?_⟩
      · by_cases e : i = k
        · rw [e, xI_self]
        · rw [xI_ne (by omega)]; exact v i (by omega)
      · show X5_advance_B66 (n + 1) 146 (nI k) h' = _
        rw [X5_advance_B66]
        rw [G_t s'.c146, w5, ss, if_neg (by rw [nI_lI (by omega) (by omega)]; omega), if_neg (by rw [nI_lI (by omega) (by omega)]; omega), G_t s'.c146, s'.r146_2, G_t s'.c149, s'.z149, G_gx (by omega) (by omega), LT_e, nI_cl (by omega), nI_add, LT_e])
    (by
      rintro n h' ⟨F, w4, w5, w6, v⟩
      have s' := sg.fr F
      show X5_advance_B66 (n + 1) 146 (nI s) h' = _
      rw [X5_advance_B66]
      rw [G_t s'.c146, w5, ss, if_pos (by rw [nI_lI (by omega) (by omega)]; omega)])
  have C' := C.fq F.q (fun a c => by omega)
  refine ⟨h', ?_, F, w4, w5, w6, fun i h1 _ => v i h1⟩
  unfold X5_advance_B54
  rw [G_t sg.c146, q5, nI_add, LT_e]
  have e : X5_advance_B66 FU 146 (nI 0) (pI h 146 5 (nI (s + 1))) = X5_advance_B94 146 h' := e
  rw [e]
  unfold X5_advance_B94
  rw [G_t C'.g.c146, tot_c C', BN_ok, w5]
  by_cases t : s + 1 ≤ r 0 + r 1 + r 2 + r 3
  · rw [if_neg (by rw [nI_tI (by omega) (by omega)]; omega), G_t C'.g.c146, w4, decide_eq_true t]
    by_cases n : s + 1 ≤ N
    · rw [if_neg (by rw [nI_tI (by omega) (by omega)]; omega), decide_eq_true n]; rfl
    · rw [if_pos (by rw [nI_tI (by omega) (by omega)]; omega), decide_eq_false n]; rfl
  · rw [if_pos (by rw [nI_tI (by omega) (by omega)]; omega), decide_eq_false t]; rfl
def muA (s d base : Nat) : Nat := s * 32768 + d * 2 + base / 64
/-- a bundle -/
def BuS (h : AH) (a : List Nat) (T s d base : Nat) : Prop := (PuS h a s d base) ∧ (1 ≤ s) ∧ (s ≤ T) ∧ (d < 128 ^ (s - 1)) ∧ (vld a.length (sD (s - 1) d) = true) ∧ (base = 0 ∨ base = 64)
theorem BuS.u {h : AH} {a : List Nat} {T s d base : Nat} (q_ : BuS h a T s d base) : PuS h a s d base := q_.1
theorem BuS.s1 {h : AH} {a : List Nat} {T s d base : Nat} (q_ : BuS h a T s d base) : 1 ≤ s := q_.2.1
theorem BuS.sT {h : AH} {a : List Nat} {T s d base : Nat} (q_ : BuS h a T s d base) : s ≤ T := q_.2.2.1
theorem BuS.d {h : AH} {a : List Nat} {T s d base : Nat} (q_ : BuS h a T s d base) : d < 128 ^ (s - 1) := q_.2.2.2.1
theorem BuS.v {h : AH} {a : List Nat} {T s d base : Nat} (q_ : BuS h a T s d base) : vld a.length (sD (s - 1) d) = true := q_.2.2.2.2.1
theorem BuS.b {h : AH} {a : List Nat} {T s d base : Nat} (q_ : BuS h a T s d base) : base = 0 ∨ base = 64 := q_.2.2.2.2.2
def AdP (h' : AH) (a : List Nat) (r : NN_) (T s c mu : Nat) (b : Bool) : Prop := (b = false ∧ RSt a r T s c = []) ∨ (b = true ∧ ∃ s' d' base', BuS h' a T s' d' base' ∧ RSt a r T s c = seg a r s' (d' * 128 + base') 64 ++ RSt a r T s' (d' * 128 + base' + 64) ∧ mu < muA s' d' base')
theorem adv_up {h : AH} {wk b s N c mu : Nat} {p : PR} {r : NN_} {a : List Nat} (C : CaX_ h wk b p r) (z : xI h 146 4 = nI a.length) (al : mL h 148 0 a) (b0 : xI h 146 6 = nI 0) (N120 : a.length ≤ 120) (q5 : xI h 146 5 = nI s) (hs : s ≤ 3) (hT : s ≤ r 0 + r 1 + r 2 + r 3) (no : seg a r s c (128 ^ s - c) = []) (hmu : mu < (s + 1) * 32768) : ∃ c' h', X5_advance_B54 146 h = some (bI c', h') ∧ Fr PuA h h' ∧ AdP h' a r (r 0 + r 1 + r 2 + r 3) s c mu c' := by
  have x := C.x
  obtain ⟨h', e, F, w4, w5, w6, v⟩ := adv_54 C z N120 q5 hs
  refine ⟨_, h', e, F.mo (fun x q => by unfold PuA; omega), ?_⟩
  unfold AdP RSt
  rw [no, List.nil_append]
  generalize hTT : r 0 + r 1 + r 2 + r 3 = T at *
  by_cases t : s + 1 ≤ T
  · rw [decide_eq_true t, Bool.true_and]
    by_cases n : s + 1 ≤ a.length
    · right
      rw [decide_eq_true n]
      obtain ⟨f1, f2, f3, f4⟩ := fs_ok (N := a.length) (s := s) (by omega) (by omega)
      refine ⟨rfl, s + 1, fsV s, 0, ⟨⟨w4, fun i hi => by rw [F.I _ (by omega)]; exact al i hi, w5, by rw [w6]; exact b0, fun i hi => ?_⟩, by omega, t, f2, f3, .inl rfl⟩, ?_, ?_⟩
      · rw [Nat.add_sub_cancel] at hi ⊢
        rw [f1] at hi ⊢
        rw [List.length_range] at hi
        rw [Nat.zero_add, v i hi (by omega), List.getD_eq_getElem?_getD, List.getElem?_range hi]; rfl
      · have hp : fsV s * 128 + 64 ≤ 128 ^ (s + 1) := by
          rw [pw_s]
          have := Nat.mul_le_mul_right 128 (Nat.succ_le_of_lt f2)
          omega
        have g0 : ∀ v, 0 ≤ v → v < fsV s * 128 → PS a r (s + 1) v = false := fun v _ hv => by
          cases V : vld a.length (sD (s + 1) v)
          · unfold PS; rw [V]; rfl
          · have := vld_st (by omega) V
            rw [f4 (v / 128) (by omega)] at this; exact nomatch this
        rw [show T - s = (T - (s + 1)) + 1 by omega, ups_s, Nat.add_zero, ← Nat.sub_zero (128 ^ (s + 1)), skp (c := 0) (c1 := fsV s * 128) g0 (Nat.zero_le _) (by omega), s64 hp, List.append_assoc, Nat.sub_zero]
        rfl
      · unfold muA; omega
    · left
      rw [decide_eq_false n]
      exact ⟨rfl, ups_nil (T - s) (s + 1) (by omega) (by omega)⟩
  · left
    rw [decide_eq_false t, show T - s = 0 by omega]
    exact ⟨rfl, rfl⟩
theorem PuA_st {x : Nat} (q : x = 149) : PuA x := by unfold PuA; omega
theorem advance_0 {h : AH} {wk b : Nat} {p : PR} {r : NN_} {a : List Nat} (C : CaX_ h wk b p r) (N120 : a.length ≤ 120) (q : PuS h a 0 0 a.length) : ∃ c' h', X5_advance_f 146 h = some (bI c', h') ∧ Fr PuA h h' ∧ AdP h' a r (r 0 + r 1 + r 2 + r 3) 0 1 (muA 0 0 a.length) c' := by
  have F1 : Fr PuA h (pI h 146 6 (nI 0)) := Fr.i (by unfold PuA; omega)
  have C1 := C.fq F1.q (fun a c => PuA_n c)
  have q5 : xI (pI h 146 6 (nI 0)) 146 5 = nI 0 := by rw [xI_ne (by omega)]; exact q.s
  obtain ⟨c', h', e, F, ad⟩ := adv_up (N := 0) (mu := muA 0 0 a.length) (a := a) (s := 0) (c := 1) C1 (by rw [xI_ne (by omega)]; exact q.z) (fun i hi => by rw [xI_ne (by omega)]; exact q.l i hi) xI_self N120 q5 (by omega) (by omega) rfl (by unfold muA; omega)
  refine ⟨c', h', ?_, F1.tr F, ad⟩
  unfold X5_advance_f
  rw [G_t C.g.c146, q.z, q.b, nI_add, if_pos (by rw [nI_lI (by omega) (by omega)]; omega), G_t C.g.c146, LT_e, G_t C1.g.c146, q5, if_pos (by decide)]
  exact e
theorem advance_c {h : AH} {wk b s d base : Nat} {p : PR} {r : NN_} {a : List Nat} (C : CaX_ h wk b p r) (N120 : a.length ≤ 120) (B : BuS h a (r 0 + r 1 + r 2 + r 3) s d base) : ∃ c' h', X5_advance_f 146 h = some (bI c', h') ∧ Fr PuA h h' ∧ AdP h' a r (r 0 + r 1 + r 2 + r 3) s (d * 128 + base + 64) (muA s d base) c' := by
  have x := C.x
  have q := B.u
  have s1 := B.s1
  have sT := B.sT
  have bb := B.b
  have hd := B.d
  obtain ⟨e, rfl⟩ : ∃ e, s = e + 1 := ⟨s - 1, by omega⟩
  rw [Nat.add_sub_cancel] at hd
  have V : vld a.length (sD e d) = true := B.v
  have he : e ≤ 2 := by omega
  have pe := pw_s (e := e)
  have dm := Nat.mul_le_mul_right 128 (Nat.succ_le_of_lt hd)
  have dl : d < 16384 := by
    have : e = 0 ∨ e = 1 ∨ e = 2 := by omega
    rcases this with rfl | rfl | rfl
    · have : d < 1 := hd
      omega
    · have : d < 128 := hd
      omega
    · exact hd
  by_cases cA : base + 64 < a.length
  · have b0 : base = 0 := by omega
    subst b0
    have F1 : Fr PuA h (pI h 146 6 (nI 64)) := Fr.i (by unfold PuA; omega)
    refine ⟨true, pI h 146 6 (nI 64), ?_, F1, .inr ⟨rfl, e + 1, d, 64, ⟨⟨by rw [xI_ne (by omega)]; exact q.z, fun i hi => by rw [xI_ne (by omega)]; exact q.l i hi, by rw [xI_ne (by omega)]; exact q.s, xI_self, fun i hi => by rw [xI_ne (by omega)]; exact q.k i hi⟩, s1, sT, B.d, B.v, .inr rfl⟩, ?_, by unfold muA; omega⟩⟩
    · unfold X5_advance_f
      rw [G_t C.g.c146, q.z, q.b, nI_add, if_neg (by rw [nI_lI (by omega) (by omega)]; omega), G_t C.g.c146, LT_e]; rfl
    · unfold RSt
      rw [Nat.add_zero, s64 (c := d * 128 + 64) (by omega), List.append_assoc]
  · have F1 : Fr PuA h (pI h 146 6 (nI 0)) := Fr.i (by unfold PuA; omega)
    have C1 := C.fq F1.q (fun a c => PuA_n c)
    have z1 : xI (pI h 146 6 (nI 0)) 146 4 = nI a.length := by rw [xI_ne (by omega)]; exact q.z
    have l1 : mL (pI h 146 6 (nI 0)) 148 0 a := fun i hi => by rw [xI_ne (by omega)]; exact q.l i hi
    have q5 : xI (pI h 146 6 (nI 0)) 146 5 = nI (e + 1) := by rw [xI_ne (by omega)]; exact q.s
    have k1 : mL (pI h 146 6 (nI 0)) 149 0 (sD e d) := fun i hi => by rw [xI_ne (by omega)]; exact q.k i hi
    have ss : nI (e + 1) - nI 1 = nI e := by rw [pk_sub (by omega)]; rfl
    have sa : e ≤ a.length := by
      rcases Nat.lt_or_ge a.length e with c | c
      · rw [fs_none (by omega) c] at V; exact nomatch V
      · exact c
    obtain ⟨kk, hkk, e1, tp, ne⟩ := stem_scan C1.g z1 N120 k1 (sD_len (by omega)) he sa (fun j hj => vld_lt (by omega) hj V) e FU (Nat.le_refl _) (FU_gt (by omega)) (fun j h1 h2 => by omega)
    have st : X5_advanceStem_f 146 (nI e) (pI h 146 6 (nI 0)) = if kk = 0 then some (nI 0, pI h 146 6 (nI 0)) else X5_advanceStem_B29 146 (nI e) (nI (kk - 1)) (pI h 146 6 (nI 0)) := by
      unfold X5_advanceStem_f
      rw [if_neg (by rw [nI_tI (by omega) (by omega)]; omega), LT_e]; exact e1
    have hdr : X5_advance_f 146 h = BN (X5_advanceStem_f 146 (nI e) (pI h 146 6 (nI 0))) fun v7 h6 => if v7 = 0 then X5_advance_B54 146 h6 else some (nI 1, h6) := by
      unfold X5_advance_f
      rw [G_t C.g.c146, q.z, q.b, nI_add, if_pos (by rw [nI_lI (by omega) (by omega)]; omega), G_t C.g.c146, LT_e, G_t C1.g.c146, q5, if_neg (by rw [nI_z, nI_lI (by omega) (by omega)]; omega), G_t C1.g.c146, ss]
    rcases Nat.eq_zero_or_pos kk with k0 | k0
    · subst k0
      have nos : seg a r (e + 1) (d * 128 + base + 64) (128 ^ (e + 1) - (d * 128 + base + 64)) = [] := by
        refine seg_nil (fun v h1 h2 => ?_)
        refine gap (d1 := 128 ^ e) he (by omega) (fun u h1 h2 => nx_last (by omega) V (fun j hj => tp j (Nat.zero_le _) hj) h1 h2 N120) (Nat.le_refl _) v h1 ?_
        rw [pe] at h2; omega
      obtain ⟨c', h', e2, F, ad⟩ := adv_up (N := 0) (mu := muA (e + 1) d base) (a := a) (s := e + 1) (c := d * 128 + base + 64) C1 z1 l1 xI_self N120 q5 (by omega) sT nos (by unfold muA; omega)
      refine ⟨c', h', ?_, F1.tr F, ad⟩
      rw [hdr, st, if_pos rfl, BN_ok, if_pos nI_0]; exact e2
    · have ne := ne.resolve_left (by omega)
      obtain ⟨w, w1, w2, w3, w4, w5⟩ := nx_next (by omega : e ≤ 3) hd V k0 hkk tp ne N120
      obtain ⟨h2, e2, F2, pk2⟩ := stem_fill C1.g k1 (sD_len (by omega)) he k0 hkk
      rw [← w3] at pk2
      have wm := Nat.mul_le_mul_right 128 (Nat.succ_le_of_lt w2)
      refine ⟨true, h2, ?_, F1.tr (F2.mo (fun x q => PuA_st q)), .inr ⟨rfl, e + 1, w, 0, ⟨⟨by rw [F2.I _ (by decide)]; exact z1, fun i hi => by rw [F2.I _ (by decide)]; exact l1 i hi, by rw [F2.I _ (by decide)]; exact q5, by rw [F2.I _ (by decide), xI_self], pk2⟩, s1, sT, w2, w4, .inl rfl⟩, ?_, by unfold muA; omega⟩⟩
      · rw [hdr, st, if_neg (by omega), e2, BN_ok, if_neg (by decide)]; rfl
      · unfold RSt
        rw [skp (c := d * 128 + base + 64) (c1 := w * 128) (gap he (by omega) w5 (by omega)) (by omega) (by omega), s64 (c := w * 128) (by omega), List.append_assoc]
        rfl
