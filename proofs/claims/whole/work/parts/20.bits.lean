def bt (x : Int32) (i : Nat) : Bool := x.toBitVec.getLsbD i
theorem b_ext {x y : Int32} (h : ∀ i, i < 32 → bt x i = bt y i) : x = y := Int32.toBitVec_inj.mp (BitVec.eq_of_getLsbD_eq (fun i hi => h i hi))
theorem b_or (x y : Int32) (i : Nat) : bt (x ||| y) i = (bt x i || bt y i) := by unfold bt; rw [Int32.toBitVec_or, BitVec.getLsbD_or]
theorem b_and (x y : Int32) (i : Nat) : bt (x &&& y) i = (bt x i && bt y i) := by unfold bt; rw [Int32.toBitVec_and, BitVec.getLsbD_and]
theorem b_xor (x y : Int32) (i : Nat) : bt (x ^^^ y) i = (bt x i ^^ bt y i) := by unfold bt; rw [Int32.toBitVec_xor, BitVec.getLsbD_xor]
theorem b_big {x : Int32} {i : Nat} (h : 32 ≤ i) : bt x i = false := BitVec.getLsbD_of_ge _ _ h
theorem b_255 (i : Nat) : bt 255 i = decide (i < 8) := by
  rcases Nat.lt_or_ge i 32 with h | h
  · exact (by decide +kernel : ∀ i, i < 32 → bt 255 i = decide (i < 8)) i h
  · rw [b_big h, decide_eq_false (by omega)]
theorem b_65535 (i : Nat) : bt 65535 i = decide (i < 16) := by
  rcases Nat.lt_or_ge i 32 with h | h
  · exact (by decide +kernel : ∀ i, i < 32 → bt 65535 i = decide (i < 16)) i h
  · rw [b_big h, decide_eq_false (by omega)]
theorem b_m1 : ∀ i, i < 32 → bt (-1) i = true := by decide +kernel
theorem b_0 (i : Nat) : bt 0 i = false := BitVec.getLsbD_zero
theorem s_l : ∀ n, n < 32 → ((nI n &&& 31).toBitVec.smod 32).toNat = n := by decide +kernel
theorem s_u : ∀ n, n < 32 → (((nI n).toUInt32 &&& Int32.toUInt32 31).toBitVec % 32).toNat = n := by decide +kernel
theorem b_shl (n : Nat) (hn : n < 32) (x : Int32) {i : Nat} (hi : i < 32) : bt (x <<< (nI n &&& 31)) i = (decide (n ≤ i) && bt x (i - n)) := by
  unfold bt
  rw [Int32.toBitVec_shiftLeft]
  show (x.toBitVec <<< ((nI n &&& 31).toBitVec.smod 32).toNat).getLsbD i = _
  rw [s_l n hn, BitVec.getLsbD_shiftLeft]
  rcases Nat.lt_or_ge i n with h | h
  · simp [h, Nat.not_le.mpr h]
  · simp [hi, h, Nat.not_lt.mpr h]
theorem b_ushr (n : Nat) (hn : n < 32) (x : Int32) (i : Nat) : bt ((x.toUInt32 >>> ((nI n).toUInt32 &&& Int32.toUInt32 31)).toInt32) i = bt x (n + i) := by
  show (x.toUInt32 >>> ((nI n).toUInt32 &&& Int32.toUInt32 31)).toBitVec.getLsbD i = x.toUInt32.toBitVec.getLsbD (n + i)
  rw [UInt32.toBitVec_shiftRight]
  show (x.toUInt32.toBitVec >>> (((nI n).toUInt32 &&& Int32.toUInt32 31).toBitVec % 32).toNat).getLsbD i = _
  rw [s_u n hn, BitVec.getLsbD_ushiftRight]
theorem b_sshr (n : Nat) (hn : n < 32) (x : Int32) {i : Nat} (hi : i < 32) : bt (x >>> (nI n &&& 31)) i = if n + i < 32 then bt x (n + i) else bt x 31 := by
  unfold bt
  rw [Int32.toBitVec_shiftRight]
  show (x.toBitVec.sshiftRight ((nI n &&& 31).toBitVec.smod 32).toNat).getLsbD i = _
  rw [s_l n hn, BitVec.getLsbD_sshiftRight, BitVec.msb_eq_getLsbD_last]
  simp [hi]
theorem b_1 (i : Nat) : bt 1 i = decide (i = 0) := by
  rcases Nat.lt_or_ge i 32 with h | h
  · exact (by decide +kernel : ∀ i, i < 32 → bt 1 i = decide (i = 0)) i h
  · rw [b_big h, decide_eq_false (by omega)]
theorem b_bit {r : Nat} (hr : r < 32) (i : Nat) : bt (nI 1 <<< (nI r &&& 31)) i = decide (i = r) := by
  rcases Nat.lt_or_ge i 32 with h | h
  · rw [b_shl r hr _ h, show nI 1 = 1 from rfl, b_1]
    rcases Nat.lt_trichotomy i r with q | q | q
    · rw [decide_eq_false (by omega : ¬ r ≤ i), decide_eq_false (by omega : ¬ i = r)]; rfl
    · subst q; simp
    · rw [decide_eq_false (by omega : ¬ i - r = 0), decide_eq_false (by omega : ¬ i = r), Bool.and_false]
  · rw [b_big h, decide_eq_false (by omega)]
theorem b_test {x : Int32} {r : Nat} (hr : r < 32) : ((x >>> (nI r &&& 31)) &&& nI 1) = if bt x r then 1 else 0 := by
  apply b_ext
  intro i hi
  rw [b_and, b_sshr r hr x hi, show nI 1 = 1 from rfl, b_1]
  by_cases h0 : i = 0
  · subst h0
    rw [if_pos (by omega : r + 0 < 32)]
    cases h : bt x r
    · simp [h, b_0]
    · simp [h, b_1]
  · cases h : bt x r
    · simp [h0, b_0]
    · simp [h0, b_1]
theorem b_test0 {x : Int32} {r : Nat} (hr : r < 32) : ((x >>> (nI r &&& 31)) &&& nI 1) = 0 ↔ bt x r = false := by
  rw [b_test hr]; cases bt x r <;> decide
theorem b_test1 {x : Int32} {r : Nat} (hr : r < 32) : ((x >>> (nI r &&& 31)) &&& nI 1) = 1 ↔ bt x r = true := by
  rw [b_test hr]; cases bt x r <;> decide
theorem b_sub {x m : Int32} : (x &&& m) = m ↔ ∀ i, i < 32 → bt m i = true → bt x i = true := by
  constructor
  · intro h i _ hm
    have := congrArg (bt · i) h
    simp only [b_and, hm, Bool.and_true] at this
    exact this
  · intro h
    apply b_ext
    intro i hi
    rw [b_and]
    cases hm : bt m i
    · simp
    · rw [h i hi hm]; rfl
theorem b_dis {x m : Int32} : (x &&& m) = 0 ↔ ∀ i, i < 32 → bt m i = true → bt x i = false := by
  constructor
  · intro h i _ hm
    have := congrArg (bt · i) h
    simp only [b_and, hm, Bool.and_true, b_0] at this
    exact this
  · intro h
    apply b_ext
    intro i hi
    rw [b_and, b_0]
    cases hm : bt m i
    · simp
    · rw [h i hi hm]; rfl
def tl (x : Int64) (i : Nat) : Bool := x.toBitVec.getLsbD i
theorem tl_ext {x y : Int64} (h : ∀ i, i < 64 → tl x i = tl y i) : x = y := Int64.toBitVec_inj.mp (BitVec.eq_of_getLsbD_eq (fun i hi => h i hi))
theorem tl_or (x y : Int64) (i : Nat) : tl (x ||| y) i = (tl x i || tl y i) := by unfold tl; rw [Int64.toBitVec_or, BitVec.getLsbD_or]
theorem tl_and (x y : Int64) (i : Nat) : tl (x &&& y) i = (tl x i && tl y i) := by unfold tl; rw [Int64.toBitVec_and, BitVec.getLsbD_and]
theorem tl_xor (x y : Int64) (i : Nat) : tl (x ^^^ y) i = (tl x i ^^ tl y i) := by unfold tl; rw [Int64.toBitVec_xor, BitVec.getLsbD_xor]
theorem tl_big {x : Int64} {i : Nat} (h : 64 ≤ i) : tl x i = false := BitVec.getLsbD_of_ge _ _ h
theorem tl_m1 : ∀ i, i < 64 → tl (-1) i = true := by decide +kernel
theorem tl_0 (i : Nat) : tl 0 i = false := BitVec.getLsbD_zero
theorem tl_n0 (i : Nat) : tl (lN 0) i = false := tl_0 i
theorem tl_not {x : Int64} {i : Nat} (hi : i < 64) : tl (x ^^^ (-1)) i = !tl x i := by rw [tl_xor, tl_m1 i hi]; simp
theorem tl_1 (i : Nat) : tl (lN 1) i = decide (i = 0) := by
  rcases Nat.lt_or_ge i 64 with h | h
  · exact (by decide +kernel : ∀ i, i < 64 → tl (lN 1) i = decide (i = 0)) i h
  · rw [tl_big h, decide_eq_false (by omega)]
theorem tl_bit : ∀ r, r < 64 → ∀ i, i < 64 → tl (lN 1 <<< ((nI r).toInt64 &&& 63)) i = decide (i = r) := by decide +kernel
theorem tl_and1 (x : Int64) : (x &&& lN 1) = if tl x 0 then lN 1 else lN 0 := by
  apply tl_ext
  intro i _
  rw [tl_and, tl_1]
  by_cases h0 : i = 0
  · subst h0
    cases h : tl x 0
    · rw [if_neg (by decide), tl_n0]; rfl
    · rw [if_pos rfl, tl_1]; rfl
  · cases h : tl x 0
    · rw [if_neg (by decide), tl_n0]; simp [h0]
    · rw [if_pos rfl, tl_1]; simp [h0]
theorem tl_and1i (x : Int64) : ((x &&& lN 1).toInt32) = if tl x 0 then 1 else 0 := by
  rw [tl_and1]; cases tl x 0 <;> rfl
theorem cmp0 {x : Int64} : lg_cmp x (lN 0) = 0 ↔ x = lN 0 := by
  unfold lg_cmp
  by_cases h1 : x > lN 0
  · rw [if_pos h1]
    constructor
    · intro h; exact absurd h (by decide)
    · intro h; subst h; exact absurd h1 (by decide)
  · rw [if_neg h1]
    by_cases h2 : x = lN 0
    · simp [h2]
    · rw [if_neg h2]
      exact ⟨fun h => absurd h (by decide), fun h => absurd h h2⟩
theorem cmpE {x y : Int64} : lg_cmp x y = 0 ↔ x = y := by
  unfold lg_cmp
  by_cases h1 : x > y
  · rw [if_pos h1]
    refine ⟨fun h => absurd h (by decide), fun h => ?_⟩
    subst h
    exact absurd h1 (Int64.lt_irrefl)
  · rw [if_neg h1]
    by_cases h2 : x = y
    · simp [h2]
    · rw [if_neg h2]
      exact ⟨fun h => absurd h (by decide), fun h => absurd h h2⟩
theorem cmp_and1 {x : Int64} : lg_cmp (x &&& lN 1) (lN 0) = 0 ↔ tl x 0 = false := by
  rw [cmp0, tl_and1]; cases tl x 0 <;> decide
theorem lz {x : Int64} : x = lN 0 ↔ ∀ i, i < 64 → tl x i = false := by
  constructor
  · intro h i _; rw [h, tl_n0]
  · intro h; apply tl_ext; intro i hi; rw [h i hi, tl_n0]
theorem gx_n {c N : Nat} (h : c < N) (hN : c < 2 ^ 31) : gx (nI c) N := by
  intro q
  rcases q with q | q
  · exact nI_pos hN q
  · rw [nI_clamp hN] at q; omega
theorem G_t {α : Type} {c : Prop} [Decidable c] {f : Option α} (hc : c) : G c f = f := if_pos hc
theorem LT_e {σ α : Type} {v : σ} {f : σ → Option α} : LT v f = f v := rfl
theorem nI_z : (0 : Int32) = nI 0 := by decide
theorem nI_o : (1 : Int32) = nI 1 := by decide
theorem G_T {α : Type} {i : Decidable True} {f : Option α} : @G α True i f = f := if_pos trivial
theorem G_gx {α : Type} {c N : Nat} {f : Option α} (h : c < N) (hN : c < 2147483648) : G (gx (nI c) N) f = f := if_pos (gx_n h hN)
theorem nI_cl {n : Nat} (h : n < 2147483648) : (nI n).toNatClampNeg = n := nI_clamp h
theorem nI_lI {a b : Nat} (ha : a < 2147483648) (hb : b < 2147483648) : nI a ≤ nI b ↔ a ≤ b := nI_leI ha hb
theorem nI_tI {a b : Nat} (ha : a < 2147483648) (hb : b < 2147483648) : nI a < nI b ↔ a < b := nI_ltI ha hb
theorem nI_eI {a b : Nat} (ha : a < 2147483648) (hb : b < 2147483648) : nI a = nI b ↔ a = b := nI_eq ha hb
theorem nI_m1 {n : Nat} (h : n < 2147483648) : (nI n = -1) = False := by
  apply eq_false
  intro q
  have := congrArg Int32.toInt q
  rw [nI_toInt h] at this
  have e : (-1 : Int32).toInt = -1 := by decide
  rw [e] at this
  omega
theorem nI_pm {n : Nat} (h : 1 ≤ n) : nI n - nI 1 = nI (n - 1) := pk_sub h
theorem cmp0n {x : Int64} : lg_cmp x (lN 0) = nI 0 ↔ x = lN 0 := cmp0
theorem cmpEn {x y : Int64} : lg_cmp x y = nI 0 ↔ x = y := cmpE
theorem cmp_and1n {x : Int64} : lg_cmp (x &&& lN 1) (lN 0) = nI 0 ↔ tl x 0 = false := cmp_and1
theorem b_n0 (i : Nat) : bt (nI 0) i = false := b_0 i
theorem b_n1 (i : Nat) : bt (nI 1) i = decide (i = 0) := b_1 i
theorem or_n0 {g : Int32} : g ||| nI 0 = nI 0 ↔ g = nI 0 := by
  have : g ||| nI 0 = g := by apply b_ext; intro i _; rw [b_or, b_n0, Bool.or_false]
  rw [this]
theorem or_n1 {g : Int32} : g ||| nI 1 = nI 0 ↔ False := by
  constructor
  · intro h
    have := congrArg (bt · 0) h
    simp only [b_or, b_n1, b_n0] at this
    simp at this
  · exact False.elim
theorem b_test0n {x : Int32} {r : Nat} (hr : r < 32) : ((x >>> (nI r &&& 31)) &&& nI 1) = nI 0 ↔ bt x r = false := b_test0 hr
theorem b_test1n {x : Int32} {r : Nat} (hr : r < 32) : ((x >>> (nI r &&& 31)) &&& nI 1) = nI 1 ↔ bt x r = true := b_test1 hr
