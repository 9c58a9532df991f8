/-! the reference's sets: isMeant, goesOn, begins -/
def MsA : Nat → Nat → Prop := fun a _ => a = 218 ∨ a = 219
theorem MsA_n {a k : Nat} (c : MsA a k) : a < 227 ∧ a ≠ 198 ∧ (a = 195 → k = 36 ∨ k = 42 ∨ k = 43 ∨ k ≤ 2) := by unfold MsA at c; omega
theorem AlM.fz {A : Nat → Nat → Prop} {h h' : AH} {L : List Nat} (F : Fz A h h') (n : ∀ a k, (a = 195 ∧ k = 36 ∨ a = 217) → ¬ A a k) (q : AlM h L) : AlM h' L := ⟨by rw [F.I (n _ _ (by omega))]; exact q.1, q.2.fz F (fun k => n _ _ (by omega))⟩
theorem drop_get {l : List Nat} {j : Nat} (hj : j < l.length) : l.drop j = l.getD j 0 :: l.drop (j + 1) := by
  rw [List.drop_eq_getElem_cons hj, List.getD_eq_getElem?_getD, List.getElem?_eq_getElem hj]; rfl
theorem cnK_s {a l : List Nat} {k j : Nat} (hj : j < l.length) : cnK a (l.drop j) k = (if a.getD (l.getD j 0) 0 / 100 = k then 1 else 0) + cnK a (l.drop (j + 1)) k := by
  unfold cnK
  rw [drop_get hj, List.filter_cons]
  by_cases e : a.getD (l.getD j 0) 0 / 100 = k
  · rw [if_pos (by simpa using e), if_pos e, List.length_cons, Nat.add_comm]
  · rw [if_neg (by simpa using e), if_neg e, Nat.zero_add]
theorem cnK_le {a l : List Nat} {k : Nat} : cnK a l k ≤ l.length := List.length_filter_le ..
theorem getD_map0 {a l : List Nat} {j : Nat} (hj : j < l.length) : (l.map fun i => a.getD i 0).getD j 0 = a.getD (l.getD j 0) 0 := by
  rw [List.getD_eq_getElem?_getD, List.getElem?_map, List.getElem?_eq_getElem hj, List.getD_eq_getElem?_getD (l := l), List.getElem?_eq_getElem hj]; rfl
theorem isMeant_m {h : AH} {b s : Nat} {p : PR} {r : NN_} {a l : List Nat} (C : MaX h b p r) (q : AlM h a) (a120 : a.length ≤ 120) (ao : ∀ d, d ∈ a → d < 400) (pk : mL h 218 0 l) (hl : l.length = s) (hs : s ≤ 3) (lt : ∀ i, i < s → l.getD i 0 < a.length) : ∃ h', X15_isMeant_f 195 (nI s) h = some (bI (mnt a r l), h') ∧ Fr (fun x => x = 219) h h' ∧ mL h' 219 0 (l.map fun i => a.getD i 0) := by
  have sg := C.c.s
  obtain ⟨h1, ⟨F1, v1⟩, e1⟩ := loopE (F := fun n k h' => X15_isMeant_B2 n 195 (nI s) (nI k) h') (E := fun h' => X15_isMeant_B30 195 (nI s) h') s (fun k h' => Fr (fun x => x = 219) h h' ∧ ∀ i, i < k → xI h' 219 i = nI (a.getD (l.getD i 0) 0)) (Nat.zero_le _) (by omega) (h := h) ⟨Fr.rf, fun i hi => absurd hi (Nat.not_lt_zero _)⟩
    (by
      rintro n k h' hk ⟨F, v⟩
      have s' := sg.fr F
      have lk := lt k hk
      have v1 : xI h' 218 (nI k).toNatClampNeg = nI (l.getD k 0) := by
        have := pk k (by omega)
        rw [Nat.zero_add] at this
        rw [nI_cl (by omega), F.I _ (by decide)]; exact this
      have v2 : xI h' 217 (nI (l.getD k 0)).toNatClampNeg = nI (a.getD (l.getD k 0) 0) := by
        have := q.2 (l.getD k 0) lk
        rw [Nat.zero_add] at this
        rw [nI_cl (by omega), F.I _ (by decide)]; exact this
      refine ⟨pI h' 219 k (nI (a.getD (l.getD k 0) 0)), ⟨F.tr (Fr.i rfl), fun i hi => ?_⟩, ?_⟩
      · by_cases e : i = k
        · rw [e, xI_self]
        · rw [xI_ne (by omega)]; exact v i (by omega)
      · show X15_isMeant_B2 (n + 1) 195 (nI s) (nI k) h' = _
        rw [X15_isMeant_B2]
        rw [if_neg (by rw [nI_lI (by omega) (by omega)]; omega), G_t s'.c195, s'.r195_38, G_t s'.c218, s'.z218, G_gx (by omega) (by omega), s'.r195_37, G_t s'.c217, v1, s'.z217, G_gx (by omega) (by omega), s'.r195_39, G_t s'.c219, s'.z219, G_gx (by omega) (by omega), v2, LT_e, nI_cl (by omega), nI_add, LT_e])
    (by
      rintro n h' ⟨F, v⟩
      show X15_isMeant_B2 (n + 1) 195 (nI s) (nI s) h' = _
      rw [X15_isMeant_B2, if_pos (by rw [nI_lI (by omega) (by omega)]; omega)])
  have s1 := sg.fr F1
  have u1 : ∀ k, k < 4 → xI h1 198 (nI k).toNatClampNeg = nI (r k) := fun k hk => by rw [nI_cl (by omega), F1.I _ (by decide)]; exact C.u k hk
  have cnt : ∀ (K : Nat → Int32 → Int32 → AH → Option (Int32 × AH)) k, k < 4 → ∀ n j c, j ≤ s → s - j < n → X15_isMeant_B42 K n 195 (nI s) (nI k) (nI c) (nI j) h1 = X15_isMeant_B76 K 195 (nI s) (nI k) (nI (c + cnK a (l.drop j) k)) h1 := by
    intro K k hk n
    induction n with
    | zero => intro j c _ hn; exact absurd hn (Nat.not_lt_zero _)
    | succ n ih =>
      intro j c hj hn
      rw [X15_isMeant_B42]
      rcases Nat.lt_or_ge j s with hlt | hge
      · have lk := lt j hlt
        have d4 := ao _ (getD_mem lk)
        have vj : xI h1 219 (nI j).toNatClampNeg = nI (a.getD (l.getD j 0) 0) := by rw [nI_cl (by omega)]; exact v1 j hlt
        have dv : nI (a.getD (l.getD j 0) 0) / nI 100 = nI (a.getD (l.getD j 0) 0 / 100) := pk_div (by omega) (by omega) (by omega)
        have nx : ∀ x, X15_isMeant_B68 K (X15_isMeant_B42 K n) 195 (nI s) (nI k) (nI j) (nI x) (nI c) h1 = X15_isMeant_B42 K n 195 (nI s) (nI k) (nI (c + x)) (nI (j + 1)) h1 := fun x => by
          unfold X15_isMeant_B68
          rw [LT_e, LT_e, nI_add, nI_add]
        rw [if_neg (by rw [nI_lI (by omega) (by omega)]; omega), G_t s1.c195, s1.r195_39, G_t s1.c219, s1.z219, G_gx (by omega) (by omega), vj, dv, nx, nx, cnK_s (by omega)]
        by_cases e : a.getD (l.getD j 0) 0 / 100 = k
        · rw [if_pos (by rw [e]), if_pos e, ih (j + 1) (c + 1) (by omega) (by omega), Nat.add_assoc]
        · rw [if_neg (by rw [nI_eI (by omega) (by omega)]; exact e), if_neg e, ih (j + 1) (c + 0) (by omega) (by omega), Nat.add_assoc]
      · have : j = s := by omega
        subst this
        rw [if_pos (by rw [nI_lI (by omega) (by omega)]; omega), List.drop_eq_nil_of_le (by omega)]; rfl
  have kinds : ∀ n k, k ≤ 4 → 4 - k < n → X15_isMeant_B32 n 195 (nI s) (nI k) h1 = some (bI (allF (fun k => decide (cnK a l k ≤ r k)) k 4), h1) := by
    intro n
    induction n with
    | zero => intro k _ hn; exact absurd hn (Nat.not_lt_zero _)
    | succ n ih =>
      intro k hk hn
      rw [X15_isMeant_B32]
      rcases Nat.lt_or_ge k 4 with hlt | hge
      · have rk := r_le C.x hlt
        have ck : cnK a l k ≤ 3 := Nat.le_trans cnK_le (by omega)
        rw [if_neg (by rw [nI_lI (by omega) (by omega)]; omega), cnt (X15_isMeant_B32 n) k hlt FU 0 0 (Nat.zero_le _) (FU_gt (by omega)), allF_step hlt, Nat.zero_add, List.drop_zero]
        unfold X15_isMeant_B76
        rw [G_t s1.c195, s1.r195_19, G_t s1.c198, s1.z198, G_gx (by omega) (by omega), u1 k hlt]
        by_cases e : cnK a l k ≤ r k
        · rw [if_pos (by rw [nI_lI (by omega) (by omega)]; exact e), LT_e, nI_add, ih (k + 1) (by omega) (by omega), decide_eq_true e]; rfl
        · rw [if_neg (by rw [nI_lI (by omega) (by omega)]; exact e), decide_eq_false e]; rfl
      · have : k = 4 := by omega
        subst this
        rw [if_pos (by rw [nI_lI (by omega) (by omega)]; omega), allF_end (Nat.le_refl _)]; rfl
  refine ⟨h1, ?_, F1, fun i hi => ?_⟩
  · have ea : mnt a r l = allF (fun k => decide (cnK a l k ≤ r k)) 0 4 := by rw [allF_0]; rfl
    have e1 : X15_isMeant_f 195 (nI s) h = X15_isMeant_B30 195 (nI s) h1 := e1
    rw [e1, ea]
    exact kinds FU 0 (by omega) (FU_gt (by omega))
  · rw [List.length_map] at hi
    rw [Nat.zero_add, getD_map0 hi]; exact v1 i (by omega)
/-- the scan back -/
theorem goesOn_scan {h : AH} {s : Nat} {a l : List Nat} (K : Nat → Int32 → Int32 → AH → Option (Int32 × AH)) (sg : SG h) (q : AlM h a) (a120 : a.length ≤ 120) (pk : mL h 218 0 l) (hl : l.length = s) (hs : s ≤ 3) (sa : s ≤ a.length) (l128 : ∀ i, i < s → l.getD i 0 < 128) : ∀ k n, k ≤ s → k < n → (∀ j, k ≤ j → j < s → l.getD j 0 + s = a.length + j) → ∃ kk, kk ≤ s ∧ X15_goesOn_B10 K n 195 (nI s) (nI k - nI 1) h = X15_goesOn_B37 K 195 (nI s) (nI kk - nI 1) h ∧ (∀ j, kk ≤ j → j < s → l.getD j 0 + s = a.length + j) ∧ (kk = 0 ∨ l.getD (kk - 1) 0 + s ≠ a.length + (kk - 1)) := by
  intro k
  induction k with
  | zero =>
    intro n _ hn tp
    obtain ⟨n, rfl⟩ : ∃ q, n = q + 1 := ⟨n - 1, by omega⟩
    exact ⟨0, Nat.zero_le _, by rw [X15_goesOn_B10, if_pos (by decide)], tp, .inl rfl⟩
  | succ k ih =>
    intro n hk hn tp
    obtain ⟨n, rfl⟩ : ∃ q, n = q + 1 := ⟨n - 1, by omega⟩
    have s1 : nI (k + 1) - nI 1 = nI k := by rw [pk_sub (by omega)]; rfl
    have lk := l128 k (by omega)
    have v1 : xI h 218 (nI k).toNatClampNeg = nI (l.getD k 0) := by
      have := pk k (by omega)
      rw [Nat.zero_add] at this
      rw [nI_cl (by omega)]; exact this
    have hd : X15_goesOn_B10 K (n + 1) 195 (nI s) (nI (k + 1) - nI 1) h = if nI (l.getD k 0) = nI (a.length - s + k) then X15_goesOn_B10 K n 195 (nI s) (nI k - nI 1) h else X15_goesOn_B37 K 195 (nI s) (nI k) h := by
      rw [X15_goesOn_B10, s1, if_neg (nI_pos (by omega)), G_t sg.c195, sg.r195_38, G_t sg.c218, sg.z218, G_gx (by omega) (by omega), v1, q.1, pk_sub sa, nI_add, LT_e, sub1]
    rw [hd]
    by_cases e : l.getD k 0 = a.length - s + k
    · rw [if_pos (by rw [e])]
      exact ih n (by omega) (by omega) (fun j h1 h2 => by
        by_cases ej : j = k
        · rw [ej]; omega
        · exact tp j (by omega) h2)
    · rw [if_neg (by rw [nI_eI (by omega) (by omega)]; exact e)]
      exact ⟨k + 1, hk, by rw [s1], tp, .inr (by rw [Nat.add_sub_cancel]; omega)⟩
theorem goesOn_fill {h : AH} {s kk : Nat} {l : List Nat} (K : Nat → Int32 → Int32 → AH → Option (Int32 × AH)) (sg : SG h) (pk : mL h 218 0 l) (hl : l.length = s) (hs : s ≤ 3) (hk : 1 ≤ kk) (hk2 : kk ≤ s) : ∃ h', X15_goesOn_B37 K 195 (nI s) (nI kk - nI 1) h = X15_goesOn_B88 K 195 (nI s) h' ∧ Fr (fun x => x = 218) h h' ∧ mL h' 218 0 (nxl l s kk) := by
  have s1 : nI kk - nI 1 = nI (kk - 1) := pk_sub hk
  have cl : (nI (kk - 1)).toNatClampNeg = kk - 1 := nI_cl (by omega)
  have pk' : ∀ i, i < s → xI h 218 i = nI (l.getD i 0) := fun i hi => by
    have := pk i (by omega)
    rw [Nat.zero_add] at this; exact this
  have F0 : Fr (fun x => x = 218) h (pI h 218 (kk - 1) (nI (l.getD (kk - 1) 0 + 1))) := Fr.i rfl
  obtain ⟨h', ⟨_, F, v⟩, e⟩ := loopE (F := fun n k h' => X15_goesOn_B58 K n 195 (nI s) (nI k) h') (E := fun h' => X15_goesOn_B88 K 195 (nI s) h') s (fun k h' => kk ≤ k ∧ Fr (fun x => x = 218) h h' ∧ ∀ i, i < k → i < s → xI h' 218 i = nI ((nxl l s kk).getD i 0)) (k := kk) hk2 (by omega) (h := pI h 218 (kk - 1) (nI (l.getD (kk - 1) 0 + 1))) ⟨Nat.le_refl _, F0, fun i h1 h2 => by
      rw [nxl_get h2]
      by_cases e : i = kk - 1
      · rw [e, xI_self, if_neg (by omega), show kk - 1 + 1 - kk = 0 by omega, Nat.add_zero]
      · rw [xI_ne (by omega), if_pos (by omega)]; exact pk' i h2⟩
    (by
      rintro n k h' hk ⟨hkk, F, v⟩
      have s' := sg.fr F
      have sk : nI k - nI 1 = nI (k - 1) := pk_sub (by omega)
      have v1 : xI h' 218 (nI (k - 1)).toNatClampNeg = nI ((nxl l s kk).getD (k - 1) 0) := by rw [nI_cl (by omega)]; exact v (k - 1) (by omega) (by omega)
      have ev : (nxl l s kk).getD (k - 1) 0 + 1 = (nxl l s kk).getD k 0 := by
        rw [nxl_get (by omega), nxl_get hk, if_neg (by omega), if_neg (by omega)]; omega
      refine ⟨pI h' 218 k (nI ((nxl l s kk).getD k 0)), ⟨by omega, F.tr (Fr.i rfl), fun i h1 h2 => ?_⟩, ?_⟩
      · by_cases e : i = k
        · rw [e, xI_self]
        · rw [xI_ne (by omega)]; exact v i (by omega) h2
      · show X15_goesOn_B58 K (n + 1) 195 (nI s) (nI k) h' = _
        rw [X15_goesOn_B58]
        rw [if_neg (by rw [nI_lI (by omega) (by omega)]; omega), G_t s'.c195, s'.r195_38, G_t s'.c218, s'.z218, sk, G_gx (by omega) (by omega), G_gx (by omega) (by omega), v1, nI_add, ev, LT_e, nI_cl (by omega), nI_add, LT_e])
    (by
      rintro n h' ⟨_, F, v⟩
      show X15_goesOn_B58 K (n + 1) 195 (nI s) (nI s) h' = _
      rw [X15_goesOn_B58, if_pos (by rw [nI_lI (by omega) (by omega)]; omega)])
  refine ⟨h', ?_, F, fun i hi => by rw [nxl_len] at hi; rw [Nat.zero_add]; exact v i hi hi⟩
  have v0 : xI h 218 (nI (kk - 1)).toNatClampNeg = nI (l.getD (kk - 1) 0) := by rw [cl]; exact pk' (kk - 1) (by omega)
  unfold X15_goesOn_B37
  rw [s1, if_pos (nI_pos' (by omega)), G_t sg.c195, sg.r195_38, G_t sg.c218, sg.z218, G_gx (by omega) (by omega), G_gx (by omega) (by omega), v0, nI_add, cl, LT_e, nI_add, show kk - 1 + 1 = kk by omega, LT_e]
  exact e
/-- where an iteration stands -/
def ItM (h : AH) (a : List Nat) (r : NN_) (s v : Nat) : Prop := (v < 128 ^ s) ∧ (PS a r s v = true) ∧ (mL h 218 0 (sD s v)) ∧ (mL h 219 0 (sL a s v))
theorem ItM.v {h : AH} {a : List Nat} {r : NN_} {s v : Nat} (q_ : ItM h a r s v) : v < 128 ^ s := q_.1
theorem ItM.p {h : AH} {a : List Nat} {r : NN_} {s v : Nat} (q_ : ItM h a r s v) : PS a r s v = true := q_.2.1
theorem ItM.k {h : AH} {a : List Nat} {r : NN_} {s v : Nat} (q_ : ItM h a r s v) : mL h 218 0 (sD s v) := q_.2.2.1
theorem ItM.e {h : AH} {a : List Nat} {r : NN_} {s v : Nat} (q_ : ItM h a r s v) : mL h 219 0 (sL a s v) := q_.2.2.2
theorem vld_128 {N s v j : Nat} (hs : s ≤ 3) (hj : j < s) (hN : N ≤ 120) (V : vld N (sD s v) = true) : (sD s v).getD j 0 < N := by
  have := vld_lt hs hj V
  omega
def NxM (h : AH) (a : List Nat) (r : NN_) (s c : Nat) (b : Bool) : Prop := (b = false ∧ seg a r s c (128 ^ s - c) = []) ∨ (b = true ∧ ∃ w, c ≤ w ∧ seg a r s c (128 ^ s - c) = sL a s w :: seg a r s (w + 1) (128 ^ s - (w + 1)) ∧ ItM h a r s w)
theorem goesOn_m {b s : Nat} {p : PR} {r : NN_} {a : List Nat} (hs1 : 1 ≤ s) (hs : s ≤ 3) (a120 : a.length ≤ 120) (ao : ∀ d, d ∈ a → d < 400) : ∀ g v n (h : AH), 128 ^ s - v ≤ g → g < n → v < 128 ^ s → MaX h b p r → AlM h a → mL h 218 0 (sD s v) → vld a.length (sD s v) = true → ∃ c h', X15_goesOn_B2 n 195 (nI s) (nI 1) h = some (bI c, h') ∧ Fz MsA h h' ∧ NxM h' a r s (v + 1) c := by
  intro g
  induction g with
  | zero => intro v n h h1 _ h3; omega
  | succ g ih =>
    intro v n h hg hn hv C q pk V
    obtain ⟨n, rfl⟩ : ∃ q, n = q + 1 := ⟨n - 1, by omega⟩
    have sl := sD_len (v := v) hs
    have lt : ∀ i, i < s → (sD s v).getD i 0 < a.length := fun i hi => vld_128 hs hi a120 V
    have sa : s ≤ a.length := by
      rcases Nat.lt_or_ge a.length s with c | c
      · rw [fs_none hs c] at V; exact nomatch V
      · exact c
    obtain ⟨kk, hkk, e1, tp, ne⟩ := goesOn_scan (X15_goesOn_B2 n) C.c.s q a120 pk sl hs sa (fun i hi => by have := lt i hi; omega) s FU (Nat.le_refl _) (FU_gt (by omega)) (fun j h1 h2 => by omega)
    have hd : X15_goesOn_B2 (n + 1) 195 (nI s) (nI 1) h = X15_goesOn_B37 (X15_goesOn_B2 n) 195 (nI s) (nI kk - nI 1) h := by
      rw [X15_goesOn_B2, if_neg (by decide), LT_e, e1]
    rcases Nat.eq_zero_or_pos kk with k0 | k0
    · subst k0
      refine ⟨false, h, ?_, Fz.rf, .inl ⟨rfl, seg_nil (fun w h1 h2 => ?_)⟩⟩
      · rw [hd]
        unfold X15_goesOn_B37
        rw [if_neg (by decide)]; rfl
      · unfold PS
        rw [nx_last hs V (fun j hj => tp j (Nat.zero_le _) hj) (by omega) (by omega) a120]; rfl
    · have ne := ne.resolve_left (by omega)
      obtain ⟨w, w1, w2, w3, w4, w5⟩ := nx_next hs hv V k0 hkk tp ne a120
      obtain ⟨h2, e2, F2, pk2⟩ := goesOn_fill (X15_goesOn_B2 n) C.c.s pk sl hs k0 hkk
      rw [← w3] at pk2
      have Fz2 : Fz MsA h h2 := F2.q.f.mo (fun a k q => .inl q)
      have C2 := C.fz Fz2 (fun a k c => MsA_n c)
      have q2 := q.fz Fz2 (fun a k q => by unfold MsA; omega)
      obtain ⟨h3, e3, F3, st3⟩ := isMeant_m C2 q2 a120 ao pk2 (sD_len hs) hs (fun i hi => vld_128 hs hi a120 w4)
      have Fz3 : Fz MsA h h3 := Fz2.tr (F3.q.f.mo (fun a k q => .inr q))
      have pk3 : mL h3 218 0 (sD s w) := fun i hi => by rw [F3.I _ (by decide)]; exact pk2 i hi
      have no : ∀ u, v + 1 ≤ u → u < w → PS a r s u = false := fun u h1 h2 => by unfold PS; rw [w5 u (by omega) h2]; rfl
      have run : X15_goesOn_B2 (n + 1) 195 (nI s) (nI 1) h = X15_goesOn_B2 n 195 (nI s) (if mnt a r (sD s w) then nI 0 else nI 1) h3 := by
        rw [hd, e2]
        unfold X15_goesOn_B88 X15_goesOn_B101
        rw [G_t C2.c.s.c195, e3, BN_ok]
        cases mnt a r (sD s w)
        · rw [if_pos (by decide)]; rfl
        · rw [if_neg (by decide)]; rfl
      rw [run]
      cases em : mnt a r (sD s w)
      · obtain ⟨c, h4, e4, F4, nx⟩ := ih w n h3 (by omega) (by omega) w2 (C.fz Fz3 (fun a k c => MsA_n c)) (q.fz Fz3 (fun a k q => by unfold MsA; omega)) pk3 w4
        have pw : PS a r s w = false := by unfold PS; rw [em, Bool.and_false]
        have sg : seg a r s (v + 1) (128 ^ s - (v + 1)) = seg a r s (w + 1) (128 ^ s - (w + 1)) := by
          rw [show 128 ^ s - (v + 1) = (w - v) + (128 ^ s - (w + 1)) by omega, seg_app, seg_nil (lo := v + 1) (fun u h1 h2 => by
            by_cases eu : u = w
            · rw [eu]; exact pw
            · exact no u h1 (by omega)), List.nil_append, show v + 1 + (w - v) = w + 1 by omega]
        refine ⟨c, h4, e4, Fz3.tr F4, ?_⟩
        unfold NxM
        rw [sg]
        rcases nx with nx | ⟨n1, u, n2, n3, n4⟩
        · exact .inl nx
        · exact .inr ⟨n1, u, by omega, n3, n4⟩
      · have pw : PS a r s w = true := by unfold PS; rw [w4, em]; rfl
        obtain ⟨n, rfl⟩ : ∃ q, n = q + 1 := ⟨n - 1, by omega⟩
        refine ⟨true, h3, by rw [X15_goesOn_B2]; exact if_pos nI_0, Fz3, .inr ⟨rfl, w, by omega, ?_, w2, pw, pk3, st3⟩⟩
        rw [seg_hd (lo := v + 1) (w := w) (n := 128 ^ s - (v + 1)) (by omega) (by omega) pw no, show v + 1 + (128 ^ s - (v + 1)) - (w + 1) = 128 ^ s - (w + 1) by omega]
theorem p128_le {s : Nat} (hs : s ≤ 3) : 128 ^ s ≤ 2097152 := by
  have : s = 0 ∨ s = 1 ∨ s = 2 ∨ s = 3 := by omega
  rcases this with rfl | rfl | rfl | rfl <;> decide
theorem goes2_m {h : AH} {b s v : Nat} {p : PR} {r : NN_} {a : List Nat} (hs1 : 1 ≤ s) (hs : s ≤ 3) (a120 : a.length ≤ 120) (ao : ∀ d, d ∈ a → d < 400) (C : MaX h b p r) (q : AlM h a) (i : ItM h a r s v) : ∃ c h', X15_goesOn_f 195 (nI s) h = some (bI c, h') ∧ Fz MsA h h' ∧ NxM h' a r s (v + 1) c := by
  have V : vld a.length (sD s v) = true := by have := i.p; unfold PS at this; exact ((Bool.and_eq_true _ _).mp this).1
  have := p128_le hs
  exact goesOn_m hs1 hs a120 ao (128 ^ s - v) v FU h (Nat.le_refl _) (FU_gt (by omega)) i.v C q i.k V
theorem begins_m {h : AH} {b s : Nat} {p : PR} {r : NN_} {a : List Nat} (hs1 : 1 ≤ s) (hs : s ≤ 3) (a120 : a.length ≤ 120) (ao : ∀ d, d ∈ a → d < 400) (C : MaX h b p r) (q : AlM h a) : ∃ c h', X15_begins_f 195 (nI s) h = some (bI c, h') ∧ Fz MsA h h' ∧ NxM h' a r s 0 c := by
  have sg := C.c.s
  have p3 := p128_le hs
  obtain ⟨h1, ⟨F1, v1⟩, e1⟩ := loopE (F := fun n k h' => X15_begins_B2 n 195 (nI s) (nI k) h') (E := fun h' => X15_begins_B20 195 (nI s) h') s (fun k h' => Fr (fun x => x = 218) h h' ∧ ∀ i, i < k → xI h' 218 i = nI i) (Nat.zero_le _) (by omega) (h := h) ⟨Fr.rf, fun i hi => absurd hi (Nat.not_lt_zero _)⟩
    (by
      rintro n k h' hk ⟨F, v⟩
      have s' := sg.fr F
      refine ⟨pI h' 218 k (nI k), ⟨F.tr (Fr.i rfl), fun i hi => ?_⟩, ?_⟩
      · by_cases e : i = k
        · rw [e, xI_self]
        · rw [xI_ne (by omega)]; exact v i (by omega)
      · show X15_begins_B2 (n + 1) 195 (nI s) (nI k) h' = _
        rw [X15_begins_B2]
        rw [if_neg (by rw [nI_lI (by omega) (by omega)]; omega), G_t s'.c195, s'.r195_38, G_t s'.c218, s'.z218, G_gx (by omega) (by omega), LT_e, nI_cl (by omega), nI_add, LT_e])
    (by
      rintro n h' ⟨F, v⟩
      show X15_begins_B2 (n + 1) 195 (nI s) (nI s) h' = _
      rw [X15_begins_B2, if_pos (by rw [nI_lI (by omega) (by omega)]; omega)])
  have Fz1 : Fz MsA h h1 := F1.q.f.mo (fun a k q => .inl q)
  have C1 := C.fz Fz1 (fun a k c => MsA_n c)
  have q1 := q.fz Fz1 (fun a k q => by unfold MsA; omega)
  have e1 : X15_begins_f 195 (nI s) h = X15_begins_B20 195 (nI s) h1 := e1
  rw [e1]
  unfold X15_begins_B20
  rw [G_t C1.c.s.c195, q1.1]
  by_cases sa : a.length < s
  · refine ⟨false, h1, by rw [if_pos (by rw [nI_tI (by omega) (by omega)]; exact sa)]; rfl, Fz1, .inl ⟨rfl, seg_nil (fun u _ _ => by unfold PS; rw [fs_none hs sa]; rfl)⟩⟩
  · obtain ⟨f1, f2, f3, f4⟩ := fs_ok (N := a.length) hs (by omega)
    have pk1 : mL h1 218 0 (sD s (fsV s)) := fun i hi => by
      rw [f1] at hi ⊢
      rw [List.length_range] at hi
      rw [Nat.zero_add, v1 i hi, List.getD_eq_getElem?_getD, List.getElem?_range hi]; rfl
    obtain ⟨h3, e3, F3, st3⟩ := isMeant_m C1 q1 a120 ao pk1 (sD_len hs) hs (fun i hi => vld_128 hs hi a120 f3)
    have Fz3 : Fz MsA h h3 := Fz1.tr (F3.q.f.mo (fun a k q => .inr q))
    have C3 := C.fz Fz3 (fun a k c => MsA_n c)
    have q3 := q.fz Fz3 (fun a k q => by unfold MsA; omega)
    have pk3 : mL h3 218 0 (sD s (fsV s)) := fun i hi => by rw [F3.I _ (by decide)]; exact pk1 i hi
    have no : ∀ u, 0 ≤ u → u < fsV s → PS a r s u = false := fun u _ h2 => by unfold PS; rw [f4 u h2]; rfl
    rw [if_neg (by rw [nI_tI (by omega) (by omega)]; exact sa), G_t C1.c.s.c195, e3, BN_ok]
    cases em : mnt a r (sD s (fsV s))
    · obtain ⟨c, h4, e4, F4, nx⟩ := goesOn_m hs1 hs a120 ao (128 ^ s - fsV s) (fsV s) FU h3 (Nat.le_refl _) (FU_gt (by omega)) f2 C3 q3 pk3 f3
      have e4 : X15_goesOn_f 195 (nI s) h3 = some (bI c, h4) := e4
      have sgm : seg a r s 0 (128 ^ s - 0) = seg a r s (fsV s + 1) (128 ^ s - (fsV s + 1)) := by
        rw [show 128 ^ s - 0 = (fsV s + 1) + (128 ^ s - (fsV s + 1)) by omega, seg_app, seg_nil (lo := 0) (fun u h1 h2 => by
          by_cases eu : u = fsV s
          · rw [eu]; unfold PS; rw [em, Bool.and_false]
          · exact no u h1 (by omega)), List.nil_append, show 0 + (fsV s + 1) = fsV s + 1 by omega]
      refine ⟨c, h4, ?_, Fz3.tr F4, ?_⟩
      · rw [if_pos (by decide), G_t C3.c.s.c195, e4, BN_ok]
        unfold X15_begins_B44
        cases c
        · rw [if_pos (by decide)]; rfl
        · rw [if_neg (by decide)]; rfl
      · unfold NxM
        rw [sgm]
        rcases nx with nx | ⟨n1, u, n2, n3, n4⟩
        · exact .inl nx
        · exact .inr ⟨n1, u, by omega, n3, n4⟩
    · have pw : PS a r s (fsV s) = true := by unfold PS; rw [f3, em]; rfl
      refine ⟨true, h3, by rw [if_neg (by decide)]; rfl, Fz3, .inr ⟨rfl, fsV s, Nat.zero_le _, ?_, f2, pw, pk3, st3⟩⟩
      rw [seg_hd (lo := 0) (w := fsV s) (n := 128 ^ s - 0) (by omega) (by omega) pw no, show 0 + (128 ^ s - 0) - (fsV s + 1) = 128 ^ s - (fsV s + 1) by omega]
