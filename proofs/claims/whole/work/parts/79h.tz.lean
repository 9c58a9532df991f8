/-- the first place where X holds -/
def fsF (X : Nat → Bool) : Nat → Nat → Option Nat
  | _, 0 => none
  | k, n + 1 => if X k then some k else fsF X (k + 1) n
def fsT (X : Nat → Bool) : Option Nat := fsF X 0 10
theorem fsF_none {X : Nat → Bool} : ∀ n k, (∀ j, k ≤ j → j < k + n → X j = false) → fsF X k n = none := by
  intro n
  induction n with
  | zero => intro k _; rfl
  | succ n ih =>
    intro k h
    rw [fsF, h k (Nat.le_refl _) (by omega), if_neg (by decide)]
    exact ih (k + 1) (fun j h1 h2 => h j (by omega) (by omega))
theorem fsF_some {X : Nat → Bool} : ∀ n k r, fsF X k n = some r → k ≤ r ∧ r < k + n ∧ X r = true := by
  intro n
  induction n with
  | zero => intro k r h; exact nomatch h
  | succ n ih =>
    intro k r h
    rw [fsF] at h
    cases e : X k
    · rw [e, if_neg (by decide)] at h
      have := ih (k + 1) r h
      exact ⟨by omega, by omega, this.2.2⟩
    · rw [e, if_pos rfl] at h
      injection h with h
      subst h
      exact ⟨Nat.le_refl _, by omega, e⟩
theorem fsF_n {X : Nat → Bool} : ∀ n k, fsF X k n = none → ∀ j, k ≤ j → j < k + n → X j = false := by
  intro n
  induction n with
  | zero => intro k _ j h1 h2; omega
  | succ n ih =>
    intro k h j h1 h2
    rw [fsF] at h
    cases e : X k
    · rw [e, if_neg (by decide)] at h
      by_cases ej : j = k
      · rw [ej]; exact e
      · exact ih (k + 1) h j (by omega) (by omega)
    · rw [e, if_pos rfl] at h; exact nomatch h
theorem fsF_congr {X Y : Nat → Bool} : ∀ n k, (∀ j, k ≤ j → j < k + n → X j = Y j) → fsF X k n = fsF Y k n := by
  intro n
  induction n with
  | zero => intro k _; rfl
  | succ n ih =>
    intro k h
    rw [fsF, fsF, h k (Nat.le_refl _) (by omega), ih (k + 1) (fun j h1 h2 => h j (by omega) (by omega))]
theorem fsT_congr {X Y : Nat → Bool} (h : ∀ j, j < 10 → X j = Y j) : fsT X = fsT Y := fsF_congr 10 0 (fun j _ hj => h j (by omega))
def nt74 (i0 i1 : Int32) : Int32 := i1 + ((i0.toUInt32 >>> ((nI 1).toUInt32 &&& Int32.toUInt32 31)).toInt32)
def nt62 (i0 i1 : Int32) : Int32 := if i0 ≤ nI 4 then nt74 i0 i1 else nt74 ((i0.toUInt32 >>> ((nI 2).toUInt32 &&& Int32.toUInt32 31)).toInt32) (i1 + nI 2)
def nt49 (i0 i1 : Int32) : Int32 := if i0 ≤ nI 16 then nt62 i0 i1 else nt62 ((i0.toUInt32 >>> ((nI 4).toUInt32 &&& Int32.toUInt32 31)).toInt32) (i1 + nI 4)
def nt34 (i0 i1 : Int32) : Int32 := if i0 ≤ nI 256 then nt49 i0 i1 else nt49 ((i0.toUInt32 >>> ((nI 8).toUInt32 &&& Int32.toUInt32 31)).toInt32) (i1 + nI 8)
def nt0 (v1 : Int32) : Int32 := if 0 < v1 then (if v1 ≤ nI 65536 then nt34 v1 (nI 1) else nt34 ((v1.toUInt32 >>> ((nI 16).toUInt32 &&& Int32.toUInt32 31)).toInt32) (nI 1 + nI 16)) else v1 &&& nI 32
theorem nt62_ok {i0 i1 : Int32} {h : AH} : J6_numberOfTrailingZeros_0f7a4_B62 i0 i1 h = some (nt62 i0 i1, h) := by
  unfold J6_numberOfTrailingZeros_0f7a4_B62 nt62
  by_cases e : i0 ≤ nI 4
  · rw [if_pos e, if_pos e]; rfl
  · rw [if_neg e, if_neg e]; rfl
theorem nt49_ok {i0 i1 : Int32} {h : AH} : J6_numberOfTrailingZeros_0f7a4_B49 i0 i1 h = some (nt49 i0 i1, h) := by
  unfold J6_numberOfTrailingZeros_0f7a4_B49 nt49
  by_cases e : i0 ≤ nI 16
  · rw [if_pos e, if_pos e]; exact nt62_ok
  · rw [if_neg e, if_neg e]; exact nt62_ok
theorem nt34_ok {i0 i1 : Int32} {h : AH} : J6_numberOfTrailingZeros_0f7a4_B34 i0 i1 h = some (nt34 i0 i1, h) := by
  unfold J6_numberOfTrailingZeros_0f7a4_B34 nt34
  by_cases e : i0 ≤ nI 256
  · rw [if_pos e, if_pos e]; exact nt49_ok
  · rw [if_neg e, if_neg e]; exact nt49_ok
theorem nt_ok {v : Int32} {h : AH} : J6_numberOfTrailingZeros_0f7a4_f v h = some (nt0 ((v ^^^ (-1)) &&& (v - (nI 1))), h) := by
  unfold J6_numberOfTrailingZeros_0f7a4_f
  rw [LT_e]
  generalize ((v ^^^ (-1)) &&& (v - (nI 1))) = w
  unfold nt0
  by_cases e0 : 0 < w
  · rw [if_pos e0, if_pos e0]
    by_cases e : w ≤ nI 65536
    · rw [if_pos e, if_pos e]; exact nt34_ok
    · rw [if_neg e, if_neg e]; exact nt34_ok
  · rw [if_neg e0, if_neg e0]
theorem nt_dec : ∀ n, n < 1024 → 0 < n → nt0 ((nI n ^^^ (-1)) &&& (nI n - (nI 1))) = leV (fsT n.testBit) ∧ (fsT n.testBit).isSome = true := by decide +kernel
theorem bt_n {v : Int32} (h : ∀ r, 10 ≤ r → r < 32 → bt v r = false) : ∃ n, n < 1024 ∧ v = nI n ∧ ∀ r, bt v r = n.testBit r := by
  refine ⟨v.toBitVec.toNat, ?_, ?_, fun r => rfl⟩
  · refine Nat.lt_pow_two_of_testBit (n := 10) _ (fun i hi => ?_)
    rcases Nat.lt_or_ge i 32 with q | q
    · exact h i hi q
    · exact b_big (x := v) q
  · apply Int32.toBitVec_inj.mp
    show v.toBitVec = BitVec.ofNat 32 _
    rw [BitVec.ofNat_toNat, BitVec.setWidth_eq]
/-- the first row of a mask, both ways -/
theorem ntz_X {v : Int32} {h : AH} {X : Nat → Bool} (hv : ∀ r, r < 32 → bt v r = (decide (r < 10) && X r)) (hz : v ≠ 0) : ∃ r, fsT X = some r ∧ r < 10 ∧ X r = true ∧ J6_numberOfTrailingZeros_0f7a4_f v h = some (nI r, h) := by
  obtain ⟨n, hn, e, ht⟩ := bt_n (v := v) (fun r h1 h2 => by rw [hv r h2, decide_eq_false (by omega)]; rfl)
  have n0 : 0 < n := by
    rcases Nat.eq_zero_or_pos n with q | q
    · exact absurd (by rw [e, q]; exact nI_0) hz
    · exact q
  have ex : fsT n.testBit = fsT X := fsT_congr (fun j hj => by rw [← ht j, hv j (by omega), decide_eq_true hj, Bool.true_and])
  obtain ⟨d1, d2⟩ := nt_dec n hn n0
  rw [ex] at d1 d2
  obtain ⟨r, hr⟩ := Option.isSome_iff_exists.mp d2
  have := fsF_some 10 0 r hr
  refine ⟨r, hr, by omega, this.2.2, ?_⟩
  rw [nt_ok, e, d1, hr]
  rfl
theorem fsT_z {v : Int32} {X : Nat → Bool} (hv : ∀ r, r < 32 → bt v r = (decide (r < 10) && X r)) (hz : v = 0) : fsT X = none := by
  refine fsF_none 10 0 (fun j _ hj => ?_)
  have := hv j (by omega)
  rw [hz, b_0, decide_eq_true (by omega), Bool.true_and] at this
  exact this.symm
theorem leastRow_m {v : Int32} {h : AH} {X : Nat → Bool} (hv : ∀ r, r < 10 → bt v r = X r) : X15_leastRow_f v h = some (leV (fsT X), h) := by
  have loop : ∀ n k, k ≤ 10 → 10 - k < n → X15_leastRow_B2 n v (nI k) h = some (leV (fsF X k (10 - k)), h) := by
    intro n
    induction n with
    | zero => intro k _ hn; exact absurd hn (Nat.not_lt_zero _)
    | succ n ih =>
      intro k hk hn
      rw [X15_leastRow_B2]
      rcases Nat.lt_or_ge k 10 with q | q
      · rw [if_neg (by rw [nI_lI (by omega) (by omega)]; omega), has_m (by omega), BN_ok, hv k q, show 10 - k = (10 - (k + 1)) + 1 by omega, fsF]
        cases X k
        · rw [if_pos (by decide), LT_e, nI_add, ih (k + 1) (by omega) (by omega)]; rfl
        · rw [if_neg (by decide)]; rfl
      · have : k = 10 := by omega
        subst this
        rw [if_pos (by rw [nI_lI (by omega) (by omega)]; omega)]
        rfl
  exact loop FU 0 (by decide) (FU_gt (by decide))
