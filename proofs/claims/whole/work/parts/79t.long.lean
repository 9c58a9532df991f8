/-! bits of a long: how many, and the lowest -/
def nL (x : Int64) : Nat := x.toBitVec.toNat
section
variable {x y : Int64}
theorem nL_tl {i : Nat} : tl x i = (nL x).testBit i := rfl
theorem nL_lt : nL x < 18446744073709551616 := x.toBitVec.isLt
theorem nL_and : nL (x &&& y) = nL x &&& nL y := by unfold nL; rw [Int64.toBitVec_and, BitVec.toNat_and]
theorem nL_add : nL (x + y) = (nL x + nL y) % 18446744073709551616 := by unfold nL; rw [Int64.toBitVec_add, BitVec.toNat_add]
theorem nL_sub : nL (x - y) = (18446744073709551616 - nL y + nL x) % 18446744073709551616 := by unfold nL; rw [Int64.toBitVec_sub, BitVec.toNat_sub]
theorem s_u64 : ∀ n, n < 64 → (((nI n).toInt64.toUInt64 &&& Int64.toUInt64 63).toBitVec % 64).toNat = n := by decide +kernel
theorem nL_shr {k : Nat} (hk : k < 64) : nL ((x.toUInt64 >>> ((nI k).toInt64.toUInt64 &&& Int64.toUInt64 63)).toInt64) = nL x >>> k := by
  show (x.toUInt64 >>> ((nI k).toInt64.toUInt64 &&& Int64.toUInt64 63)).toBitVec.toNat = x.toUInt64.toBitVec.toNat >>> k
  rw [UInt64.toBitVec_shiftRight]
  show (x.toUInt64.toBitVec >>> (((nI k).toInt64.toUInt64 &&& Int64.toUInt64 63).toBitVec % 64).toNat).toNat = _
  rw [s_u64 k hk, BitVec.toNat_ushiftRight]
end
theorem bt_i32 {x : Int64} {i : Nat} (hi : i < 32) : bt x.toInt32 i = tl x i := by
  unfold bt tl
  rw [Int64.toBitVec_toInt32, BitVec.getLsbD_signExtend, decide_eq_true hi, Bool.true_and, if_pos (by omega)]
def bvl : List Nat → Nat
  | [] => 0
  | d :: ds => d + 256 * bvl ds
def dgs : Nat → Nat → List Nat
  | 0, _ => []
  | n + 1, x => x % 256 :: dgs n (x / 256)
theorem dgs_bvl : ∀ n x, x < 256 ^ n → bvl (dgs n x) = x := by
  intro n
  induction n with
  | zero => intro x hx; have : x < 1 := hx; show 0 = x; omega
  | succ n ih =>
    intro x hx
    rw [Nat.pow_succ] at hx
    show x % 256 + 256 * bvl (dgs n (x / 256)) = x
    rw [ih (x / 256) (Nat.div_lt_of_lt_mul (by rw [Nat.mul_comm]; exact hx))]
    omega
theorem dgs_lt : ∀ n x d, d ∈ dgs n x → d < 256 := by
  intro n
  induction n with
  | zero => intro x d h; exact absurd h List.not_mem_nil
  | succ n ih =>
    intro x d h
    rcases List.mem_cons.mp h with h | h
    · rw [h]; exact Nat.mod_lt _ (by decide)
    · exact ih _ _ h
theorem dgs_len : ∀ n x, (dgs n x).length = n := by
  intro n
  induction n with
  | zero => intro x; rfl
  | succ n ih => intro x; show (dgs n (x / 256)).length + 1 = n + 1; rw [ih]
theorem bvl_lt : ∀ ds : List Nat, (∀ d, d ∈ ds → d < 256) → bvl ds < 256 ^ ds.length := by
  intro ds
  induction ds with
  | nil => intro _; show 0 < 1; omega
  | cons d ds ih =>
    intro h
    have h1 := h d List.mem_cons_self
    have h2 := ih (fun e he => h e (List.mem_cons_of_mem _ he))
    show d + 256 * bvl ds < 256 ^ (ds.length + 1)
    rw [Nat.pow_succ]; omega
theorem sh1 {d X mb M s : Nat} (hs : s ≤ 8) (hd : d < 256) (hm : mb < 2 ^ (8 - s)) : ((d + 256 * X) >>> s) &&& (mb + 256 * M) = ((d >>> s) &&& mb) + 256 * ((X >>> s) &&& M) := by
  have m256 : mb < 2 ^ 8 := Nat.lt_of_lt_of_le hm (Nat.pow_le_pow_right (by decide) (by omega))
  have a256 : (d >>> s) &&& mb < 2 ^ 8 := Nat.lt_of_le_of_lt Nat.and_le_right m256
  have e1 : d + 256 * X = 2 ^ 8 * X + d := by rw [Nat.add_comm]
  have e2 : mb + 256 * M = 2 ^ 8 * M + mb := by rw [Nat.add_comm]
  have e3 : ((d >>> s) &&& mb) + 256 * ((X >>> s) &&& M) = 2 ^ 8 * ((X >>> s) &&& M) + ((d >>> s) &&& mb) := by rw [Nat.add_comm]
  rw [e1, e2, e3]
  apply Nat.eq_of_testBit_eq
  intro i
  rw [Nat.testBit_and, Nat.testBit_shiftRight, Nat.testBit_two_pow_mul_add _ hd, Nat.testBit_two_pow_mul_add _ m256, Nat.testBit_two_pow_mul_add _ a256, Nat.testBit_and, Nat.testBit_and, Nat.testBit_shiftRight, Nat.testBit_shiftRight]
  by_cases hi : i < 8
  · rw [if_pos hi, if_pos hi]
    by_cases hsi : s + i < 8
    · rw [if_pos hsi]
    · have : mb.testBit i = false := Nat.testBit_lt_two_pow (Nat.lt_of_lt_of_le hm (Nat.pow_le_pow_right (by decide) (by omega)))
      rw [this, Bool.and_false, Bool.and_false]
  · rw [if_neg hi, if_neg hi, if_neg (by omega), show s + i - 8 = s + (i - 8) by omega]
theorem shm {mb s : Nat} (hs : s ≤ 8) (hm : mb < 2 ^ (8 - s)) : ∀ ds : List Nat, (∀ d, d ∈ ds → d < 256) → (bvl ds >>> s) &&& bvl (ds.map fun _ => mb) = bvl (ds.map fun d => (d >>> s) &&& mb) := by
  intro ds
  induction ds with
  | nil => intro _; show (0 >>> s) &&& 0 = 0; rw [Nat.and_zero]
  | cons d ds ih =>
    intro h
    show ((d + 256 * bvl ds) >>> s) &&& (mb + 256 * bvl (ds.map fun _ => mb)) = ((d >>> s) &&& mb) + 256 * bvl (ds.map fun d => (d >>> s) &&& mb)
    rw [sh1 hs (h d List.mem_cons_self) hm, ih (fun e he => h e (List.mem_cons_of_mem _ he))]
theorem bvl_add {f g : Nat → Nat} : ∀ ds : List Nat, bvl (ds.map f) + bvl (ds.map g) = bvl (ds.map fun d => f d + g d) := by
  intro ds
  induction ds with
  | nil => rfl
  | cons d ds ih =>
    show (f d + 256 * bvl (ds.map f)) + (g d + 256 * bvl (ds.map g)) = (f d + g d) + 256 * bvl (ds.map fun d => f d + g d)
    rw [← ih]; omega
theorem bvl_sub {f : Nat → Nat} (hf : ∀ d, d < 256 → f d ≤ d) : ∀ ds : List Nat, (∀ d, d ∈ ds → d < 256) → bvl (ds.map f) ≤ bvl ds ∧ bvl ds - bvl (ds.map f) = bvl (ds.map fun d => d - f d) := by
  intro ds
  induction ds with
  | nil => intro _; exact ⟨Nat.le_refl _, rfl⟩
  | cons d ds ih =>
    intro h
    have h1 := hf d (h d List.mem_cons_self)
    obtain ⟨i1, i2⟩ := ih (fun e he => h e (List.mem_cons_of_mem _ he))
    show f d + 256 * bvl (ds.map f) ≤ d + 256 * bvl ds ∧ (d + 256 * bvl ds) - (f d + 256 * bvl (ds.map f)) = (d - f d) + 256 * bvl (ds.map fun d => d - f d)
    rw [← i2]
    exact ⟨by omega, by omega⟩
def pc8 (d : Nat) : Nat := ((List.range 8).filter fun i => d.testBit i).length
def pf1 (d : Nat) : Nat := d - ((d >>> 1) &&& 85)
def pf2 (d : Nat) : Nat := (pf1 d &&& 51) + ((pf1 d >>> 2) &&& 51)
theorem pf_dec : ∀ d, d < 256 → (d >>> 1) &&& 85 ≤ d ∧ pf2 d < 256 ∧ pf2 d / 16 ≤ 4 ∧ pf2 d % 16 ≤ 4 ∧ pf2 d / 16 + pf2 d % 16 = pc8 d := by decide +kernel
theorem pf1_lt {d : Nat} (h : d < 256) : pf1 d < 256 := by unfold pf1; omega
def sumL : List Nat → Nat
  | [] => 0
  | d :: ds => d + sumL ds
def cn64 (x : Int64) : Nat := ((List.range 64).filter fun j => tl x j).length
theorem cnt_bvl : ∀ ds : List Nat, (∀ d, d ∈ ds → d < 256) → ((List.range (8 * ds.length)).filter fun j => (bvl ds).testBit j).length = sumL (ds.map pc8) := by
  intro ds
  induction ds with
  | nil => intro _; rfl
  | cons d ds ih =>
    intro h
    have hd : d < 2 ^ 8 := h d List.mem_cons_self
    have e : 8 * (d :: ds).length = 8 + 8 * ds.length := by rw [List.length_cons]; omega
    rw [e, List.range_add, List.filter_append, List.length_append, List.filter_map, List.length_map]
    show _ = pc8 d + sumL (ds.map pc8)
    rw [← ih (fun e he => h e (List.mem_cons_of_mem _ he))]
    have tb : ∀ j, (bvl (d :: ds)).testBit j = if j < 8 then d.testBit j else (bvl ds).testBit (j - 8) := fun j => by
      show (d + 256 * bvl ds).testBit j = _
      rw [show d + 256 * bvl ds = 2 ^ 8 * bvl ds + d by rw [Nat.add_comm], Nat.testBit_two_pow_mul_add _ hd]
    congr 1
    · unfold pc8
      congr 1
      apply List.filter_congr
      intro j hj
      have := List.mem_range.mp hj
      rw [tb, if_pos this]
    · congr 1
      apply List.filter_congr
      intro j _
      show (bvl (d :: ds)).testBit (8 + j) = _
      rw [tb, if_neg (by omega), show 8 + j - 8 = j by omega]
def addL : List Nat → List Nat → List Nat
  | [], es => es
  | ds, [] => ds
  | d :: ds, e :: es => (d + e) :: addL ds es
theorem bvl_addL : ∀ ds es : List Nat, bvl (addL ds es) = bvl ds + bvl es := by
  intro ds
  induction ds with
  | nil => intro es; show bvl es = 0 + bvl es; rw [Nat.zero_add]
  | cons d ds ih =>
    intro es
    cases es with
    | nil => rfl
    | cons e es =>
      show (d + e) + 256 * bvl (addL ds es) = (d + 256 * bvl ds) + (e + 256 * bvl es)
      rw [ih]; omega
theorem bq1 {d : Nat} {ds : List Nat} (h : d < 256) : bvl (d :: ds) / 256 = bvl ds := by
  show (d + 256 * bvl ds) / 256 = _
  omega
theorem bq2 {c d : Nat} {ds : List Nat} (h : c < 256) (h' : d < 256) : bvl (c :: d :: ds) / 65536 = bvl ds := by
  rw [show 65536 = 256 * 256 from rfl, ← Nat.div_div_eq_div_mul, bq1 h, bq1 h']
theorem bq4 {c d e f : Nat} {ds : List Nat} (h : c < 256) (h' : d < 256) (h2 : e < 256) (h3 : f < 256) : bvl (c :: d :: e :: f :: ds) / 4294967296 = bvl ds := by
  rw [show 4294967296 = 65536 * 65536 from rfl, ← Nat.div_div_eq_div_mul, bq2 h h', bq2 h2 h3]
theorem e8 : 256 ^ 8 = 18446744073709551616 := by decide
theorem l8 {a b c d e f g h : Nat} (h0 : a < 256) (h1 : b < 256) (h2 : c < 256) (h3 : d < 256) (h4 : e < 256) (h5 : f < 256) (h6 : g < 256) (h7 : h < 256) : bvl [a, b, c, d, e, f, g, h] < 18446744073709551616 := by
  have : bvl [a, b, c, d, e, f, g, h] < 256 ^ 8 := bvl_lt [a, b, c, d, e, f, g, h] (fun x hx => by simp only [List.mem_cons, List.not_mem_nil, or_false] at hx; omega)
  rw [e8] at this; exact this
theorem fin8 {c0 c1 c2 c3 c4 c5 c6 c7 : Nat} (h0 : c0 ≤ 8) (h1 : c1 ≤ 8) (h2 : c2 ≤ 8) (h3 : c3 ≤ 8) (h4 : c4 ≤ 8) (h5 : c5 ≤ 8) (h6 : c6 ≤ 8) (h7 : c7 ≤ 8) {Y Z U W : Nat} (hY : Y = bvl [c0, c1, c2, c3, c4, c5, c6, c7]) (hZ : Z = Y + Y / 256) (hU : U = Z + Z / 65536) (hW : W = U + U / 4294967296) : Z < 18446744073709551616 ∧ U < 18446744073709551616 ∧ W < 18446744073709551616 ∧ W % 128 = c0 + c1 + c2 + c3 + c4 + c5 + c6 + c7 := by
  have z0 : Z = bvl [c0 + c1, c1 + c2, c2 + c3, c3 + c4, c4 + c5, c5 + c6, c6 + c7, c7] := by
    rw [hZ, hY, bq1 (by omega), ← bvl_addL]; rfl
  have u0 : U = bvl [c0 + c1 + (c2 + c3), c1 + c2 + (c3 + c4), c2 + c3 + (c4 + c5), c3 + c4 + (c5 + c6), c4 + c5 + (c6 + c7), c5 + c6 + c7, c6 + c7, c7] := by
    rw [hU, z0, bq2 (by omega) (by omega), ← bvl_addL]; rfl
  have w0 : W = bvl [c0 + c1 + (c2 + c3) + (c4 + c5 + (c6 + c7)), c1 + c2 + (c3 + c4) + (c5 + c6 + c7), c2 + c3 + (c4 + c5) + (c6 + c7), c3 + c4 + (c5 + c6) + c7, c4 + c5 + (c6 + c7), c5 + c6 + c7, c6 + c7, c7] := by
    rw [hW, u0, bq4 (by omega) (by omega) (by omega) (by omega), ← bvl_addL]; rfl
  refine ⟨?_, ?_, ?_, ?_⟩
  · rw [z0]; exact l8 (by omega) (by omega) (by omega) (by omega) (by omega) (by omega) (by omega) (by omega)
  · rw [u0]; exact l8 (by omega) (by omega) (by omega) (by omega) (by omega) (by omega) (by omega) (by omega)
  · rw [w0]; exact l8 (by omega) (by omega) (by omega) (by omega) (by omega) (by omega) (by omega) (by omega)
  · rw [w0, bvl]
    generalize bvl [c1 + c2 + (c3 + c4) + (c5 + c6 + c7), c2 + c3 + (c4 + c5) + (c6 + c7), c3 + c4 + (c5 + c6) + c7, c4 + c5 + (c6 + c7), c5 + c6 + c7, c6 + c7, c7] = T
    omega
theorem st16 {a b c : Nat} {X Q : List Nat} (h : bvl X = 16 * bvl Q + c) : bvl ((16 * a + b) :: X) = 16 * bvl ((a + 16 * c) :: Q) + b := by
  show 16 * a + b + 256 * bvl X = 16 * (a + 16 * c + 256 * bvl Q) + b
  omega
theorem sum8 {c0 c1 c2 c3 c4 c5 c6 c7 : Nat} : c0 + (c1 + (c2 + (c3 + (c4 + (c5 + (c6 + (c7 + 0))))))) = c0 + c1 + c2 + c3 + c4 + c5 + c6 + c7 := by omega
theorem le8 {c0 c1 c2 c3 c4 c5 c6 c7 : Nat} (h0 : c0 ≤ 8) (h1 : c1 ≤ 8) (h2 : c2 ≤ 8) (h3 : c3 ≤ 8) (h4 : c4 ≤ 8) (h5 : c5 ≤ 8) (h6 : c6 ≤ 8) (h7 : c7 ≤ 8) : c0 + c1 + c2 + c3 + c4 + c5 + c6 + c7 ≤ 64 := by omega
theorem bitCount64 {x : Int64} {h : AH} : J13_bitCount_95d88_f x h = some (nI (cn64 x), h) ∧ cn64 x ≤ 64 := by
  have lt := nL_lt (x := x)
  have e0 := dgs_bvl 8 (nL x) lt
  have d0 := dgs_lt 8 (nL x)
  have len := dgs_len 8 (nL x)
  generalize dgs 8 (nL x) = ds at e0 d0 len
  have cnt : cn64 x = sumL (ds.map pc8) := by
    rw [← cnt_bvl ds d0, len, e0]; rfl
  have up : ∀ f : Nat → Nat, (∀ d, d < 256 → f d < 256) → (∀ d, d ∈ ds.map f → d < 256) ∧ bvl (ds.map f) < 18446744073709551616 := fun f hf => by
    have a : ∀ d, d ∈ ds.map f → d < 256 := fun d hd => by
      obtain ⟨e, he, rfl⟩ := List.mem_map.mp hd
      exact hf e (d0 e he)
    refine ⟨a, ?_⟩
    have := bvl_lt _ a
    rw [List.length_map, len, e8] at this
    exact this
  have mk : ∀ mb : Nat, bvl (ds.map fun _ => mb) = bvl [mb, mb, mb, mb, mb, mb, mb, mb] := fun mb => by
    match ds, len with
    | [_, _, _, _, _, _, _, _], _ => rfl
  have m1 : nL 6148914691236517205 = bvl (ds.map fun _ => 85) := by rw [mk]; decide +kernel
  have m2 : nL 3689348814741910323 = bvl (ds.map fun _ => 51) := by rw [mk]; decide +kernel
  have m3 : nL 1085102592571150095 = bvl (ds.map fun _ => 15) := by rw [mk]; decide +kernel
  have mm : ∀ (f : Nat → Nat) (mb : Nat), (ds.map f).map (fun _ => mb) = ds.map fun _ => mb := fun f mb => by rw [List.map_map]; rfl
  unfold J13_bitCount_95d88_f
  rw [LT_e, LT_e, LT_e, LT_e, LT_e, LT_e]
  generalize hw1 : x - (((x.toUInt64 >>> ((nI 1).toInt64.toUInt64 &&& Int64.toUInt64 63)).toInt64) &&& (6148914691236517205)) = w1
  generalize hw2 : (w1 &&& (3689348814741910323)) + (((w1.toUInt64 >>> ((nI 2).toInt64.toUInt64 &&& Int64.toUInt64 63)).toInt64) &&& (3689348814741910323)) = w2
  generalize hw3 : (w2 + ((w2.toUInt64 >>> ((nI 4).toInt64.toUInt64 &&& Int64.toUInt64 63)).toInt64)) &&& (1085102592571150095) = w3
  generalize hw4 : w3 + ((w3.toUInt64 >>> ((nI 8).toInt64.toUInt64 &&& Int64.toUInt64 63)).toInt64) = w4
  generalize hw5 : w4 + ((w4.toUInt64 >>> ((nI 16).toInt64.toUInt64 &&& Int64.toUInt64 63)).toInt64) = w5
  generalize hw6 : w5 + ((w5.toUInt64 >>> ((nI 32).toInt64.toUInt64 &&& Int64.toUInt64 63)).toInt64) = w6
  have v1 : nL w1 = bvl (ds.map pf1) := by
    obtain ⟨s1, s2⟩ := bvl_sub (f := fun d => (d >>> 1) &&& 85) (fun d hd => (pf_dec d hd).1) ds d0
    rw [← hw1, nL_sub, nL_and, nL_shr (by decide), m1, ← e0, shm (by decide) (by decide) ds d0]
    have : bvl ds < 18446744073709551616 := by rw [e0]; exact lt
    show _ = bvl (ds.map fun d => d - ((d >>> 1) &&& 85))
    rw [← s2]; omega
  obtain ⟨a1, b1⟩ := up pf1 (fun d hd => pf1_lt hd)
  have v2 : nL w2 = bvl (ds.map pf2) := by
    have q1 := shm (mb := 51) (s := 0) (by decide) (by decide) (ds.map pf1) a1
    have q2 := shm (mb := 51) (s := 2) (by decide) (by decide) (ds.map pf1) a1
    rw [mm] at q1 q2
    rw [Nat.shiftRight_zero] at q1
    have b2 := (up pf2 (fun d hd => (pf_dec d hd).2.1)).2
    rw [← hw2, nL_add, nL_and, nL_and, nL_shr (by decide), m2, v1, q1, q2, List.map_map, List.map_map, bvl_add]
    show bvl (ds.map pf2) % _ = _
    exact Nat.mod_eq_of_lt b2
  match ds, len with
  | [g0, g1, g2, g3, g4, g5, g6, g7], _ =>
    have p0 := pf_dec g0 (d0 g0 (by simp))
    have p1 := pf_dec g1 (d0 g1 (by simp))
    have p2 := pf_dec g2 (d0 g2 (by simp))
    have p3 := pf_dec g3 (d0 g3 (by simp))
    have p4 := pf_dec g4 (d0 g4 (by simp))
    have p5 := pf_dec g5 (d0 g5 (by simp))
    have p6 := pf_dec g6 (d0 g6 (by simp))
    have p7 := pf_dec g7 (d0 g7 (by simp))
    have cnt : cn64 x = pc8 g0 + (pc8 g1 + (pc8 g2 + (pc8 g3 + (pc8 g4 + (pc8 g5 + (pc8 g6 + (pc8 g7 + 0))))))) := cnt
    have v2 : nL w2 = bvl [pf2 g0, pf2 g1, pf2 g2, pf2 g3, pf2 g4, pf2 g5, pf2 g6, pf2 g7] := v2
    have m3 : nL 1085102592571150095 = bvl [15, 15, 15, 15, 15, 15, 15, 15] := m3
    have spl : ∀ g, pf2 g / 16 ≤ 4 → pf2 g % 16 ≤ 4 → ∃ hh ll, hh ≤ 4 ∧ ll ≤ 4 ∧ pf2 g = 16 * hh + ll ∧ pf2 g / 16 + pf2 g % 16 = hh + ll := fun g a b => ⟨pf2 g / 16, pf2 g % 16, a, b, by omega, rfl⟩
    obtain ⟨a0, b0, x0, y0, f0, k0⟩ := spl g0 p0.2.2.1 p0.2.2.2.1
    obtain ⟨a1, b1, x1, y1, f1, k1⟩ := spl g1 p1.2.2.1 p1.2.2.2.1
    obtain ⟨a2, b2, x2, y2, f2, k2⟩ := spl g2 p2.2.2.1 p2.2.2.2.1
    obtain ⟨a3, b3, x3, y3, f3, k3⟩ := spl g3 p3.2.2.1 p3.2.2.2.1
    obtain ⟨a4, b4, x4, y4, f4, k4⟩ := spl g4 p4.2.2.1 p4.2.2.2.1
    obtain ⟨a5, b5, x5, y5, f5, k5⟩ := spl g5 p5.2.2.1 p5.2.2.2.1
    obtain ⟨a6, b6, x6, y6, f6, k6⟩ := spl g6 p6.2.2.1 p6.2.2.2.1
    obtain ⟨a7, b7, x7, y7, f7, k7⟩ := spl g7 p7.2.2.1 p7.2.2.2.1
    rw [f0, f1, f2, f3, f4, f5, f6, f7] at v2
    have v3 : nL w3 = bvl [a0 + b0, a1 + b1, a2 + b2, a3 + b3, a4 + b4, a5 + b5, a6 + b6, a7 + b7] := by
      have sh4 : nL w2 >>> 4 = nL w2 / 16 := Nat.shiftRight_eq_div_pow _ 4
      have x16 : nL w2 = 16 * bvl [a0 + 16 * b1, a1 + 16 * b2, a2 + 16 * b3, a3 + 16 * b4, a4 + 16 * b5, a5 + 16 * b6, a6 + 16 * b7, a7 + 16 * 0] + b0 := by
        rw [v2]
        exact st16 (st16 (st16 (st16 (st16 (st16 (st16 (st16 rfl)))))))
      have d16 : nL w2 / 16 = bvl [a0 + 16 * b1, a1 + 16 * b2, a2 + 16 * b3, a3 + 16 * b4, a4 + 16 * b5, a5 + 16 * b6, a6 + 16 * b7, a7 + 16 * 0] := by
        generalize bvl [a0 + 16 * b1, a1 + 16 * b2, a2 + 16 * b3, a3 + 16 * b4, a4 + 16 * b5, a5 + 16 * b6, a6 + 16 * b7, a7 + 16 * 0] = T at x16 ⊢
        omega
      have su : nL w2 + nL w2 / 16 = bvl [16 * a0 + b0 + (a0 + 16 * b1), 16 * a1 + b1 + (a1 + 16 * b2), 16 * a2 + b2 + (a2 + 16 * b3), 16 * a3 + b3 + (a3 + 16 * b4), 16 * a4 + b4 + (a4 + 16 * b5), 16 * a5 + b5 + (a5 + 16 * b6), 16 * a6 + b6 + (a6 + 16 * b7), 16 * a7 + b7 + (a7 + 16 * 0)] := by
        rw [d16, v2]
        rw [← bvl_addL]; rfl
      have q := shm (mb := 15) (s := 0) (by decide) (by decide) [16 * a0 + b0 + (a0 + 16 * b1), 16 * a1 + b1 + (a1 + 16 * b2), 16 * a2 + b2 + (a2 + 16 * b3), 16 * a3 + b3 + (a3 + 16 * b4), 16 * a4 + b4 + (a4 + 16 * b5), 16 * a5 + b5 + (a5 + 16 * b6), 16 * a6 + b6 + (a6 + 16 * b7), 16 * a7 + b7 + (a7 + 16 * 0)] (fun d hd => by
        simp only [List.mem_cons, List.not_mem_nil, or_false] at hd
        omega)
      rw [Nat.shiftRight_zero] at q
      have lt2 : nL w2 + nL w2 / 16 < 18446744073709551616 := by
        rw [su]
        exact l8 (by omega) (by omega) (by omega) (by omega) (by omega) (by omega) (by omega) (by omega)
      have a15 : ∀ t, t &&& 15 = t % 16 := fun t => Nat.and_two_pow_sub_one_eq_mod t 4
      rw [← hw3, nL_and, nL_add, nL_shr (by decide), sh4, Nat.mod_eq_of_lt lt2, su, m3]
      refine Eq.trans q ?_
      have m16 : ∀ u w z, u + w < 16 → (16 * u + w + (u + 16 * z)) >>> 0 &&& 15 = u + w := fun u w z h => by rw [Nat.shiftRight_zero, a15]; omega
      simp only [List.map_cons, List.map_nil]
      rw [m16 a0 b0 b1 (by omega), m16 a1 b1 b2 (by omega), m16 a2 b2 b3 (by omega), m16 a3 b3 b4 (by omega), m16 a4 b4 b5 (by omega), m16 a5 b5 b6 (by omega), m16 a6 b6 b7 (by omega), m16 a7 b7 0 (by omega)]
    obtain ⟨z1, z2, z3, z4⟩ := fin8 (c0 := a0 + b0) (c1 := a1 + b1) (c2 := a2 + b2) (c3 := a3 + b3) (c4 := a4 + b4) (c5 := a5 + b5) (c6 := a6 + b6) (c7 := a7 + b7) (Nat.add_le_add x0 y0) (Nat.add_le_add x1 y1) (Nat.add_le_add x2 y2) (Nat.add_le_add x3 y3) (Nat.add_le_add x4 y4) (Nat.add_le_add x5 y5) (Nat.add_le_add x6 y6) (Nat.add_le_add x7 y7) v3 rfl rfl rfl
    have v4 : nL w4 = nL w3 + nL w3 / 256 := by
      rw [← hw4, nL_add, nL_shr (by decide), Nat.shiftRight_eq_div_pow]; exact Nat.mod_eq_of_lt z1
    have v5 : nL w5 = nL w4 + nL w4 / 65536 := by
      rw [← hw5, nL_add, nL_shr (by decide), Nat.shiftRight_eq_div_pow, v4]; exact Nat.mod_eq_of_lt z2
    have v6 : nL w6 = nL w5 + nL w5 / 4294967296 := by
      rw [← hw6, nL_add, nL_shr (by decide), Nat.shiftRight_eq_div_pow, v5, v4]; exact Nat.mod_eq_of_lt z3
    rw [← v4, ← v5, ← v6] at z4
    have tot : cn64 x = a0 + b0 + (a1 + b1) + (a2 + b2) + (a3 + b3) + (a4 + b4) + (a5 + b5) + (a6 + b6) + (a7 + b7) := by
      rw [cnt, ← p0.2.2.2.2, ← p1.2.2.2.2, ← p2.2.2.2.2, ← p3.2.2.2.2, ← p4.2.2.2.2, ← p5.2.2.2.2, ← p6.2.2.2.2, ← p7.2.2.2.2, k0, k1, k2, k3, k4, k5, k6, k7, sum8]
    have q8 : ∀ {u w : Nat}, u ≤ 4 → w ≤ 4 → u + w ≤ 8 := fun a b => Nat.add_le_add a b
    refine ⟨?_, by rw [tot]; exact le8 (q8 x0 y0) (q8 x1 y1) (q8 x2 y2) (q8 x3 y3) (q8 x4 y4) (q8 x5 y5) (q8 x6 y6) (q8 x7 y7)⟩
    have last : w6.toInt32 &&& nI 127 = nI (nL w6 % 128) := by
      apply b_ext
      intro i hi
      have t1 : bt w6.toInt32 i = (nL w6).testBit i := by
        exact bt_i32 hi
      have t2 : bt (nI 127) i = decide (i < 7) := (by decide +kernel : ∀ i, i < 32 → bt (nI 127) i = decide (i < 7)) i hi
      have t3 : bt (nI (nL w6 % 128)) i = (nL w6 % 128).testBit i := by
        show (BitVec.ofNat 32 (nL w6 % 128)).getLsbD i = _
        rw [BitVec.getLsbD_ofNat, decide_eq_true hi, Bool.true_and]
      rw [b_and, t1, t2, t3, show nL w6 % 128 = nL w6 % 2 ^ 7 from rfl, Nat.testBit_mod_two_pow, Bool.and_comm]
    rw [last, z4, ← tot]
/-- the lowest bit of an int -/
theorem n_low {n t : Nat} (h : ∀ i, i < t → n.testBit i = false) (ht : n.testBit t = true) : n = 2 ^ (t + 1) * (n / 2 ^ (t + 1)) + 2 ^ t := by
  have e : n % 2 ^ (t + 1) = 2 ^ t := by
    apply Nat.eq_of_testBit_eq
    intro i
    rw [Nat.testBit_mod_two_pow, Nat.testBit_two_pow]
    by_cases hi : i < t
    · rw [h i hi, Bool.and_false, decide_eq_false (by omega)]
    · by_cases ei : t = i
      · subst ei; rw [ht, decide_eq_true (by omega), decide_eq_true rfl]; rfl
      · rw [decide_eq_false (by omega), decide_eq_false ei]; rfl
  have := Nat.div_add_mod n (2 ^ (t + 1))
  rw [e] at this
  exact this.symm
theorem nt_pow : ∀ t, t < 32 → nt0 (nI (2 ^ t - 1)) = nI t := by decide +kernel
theorem ntz32 {v : Int32} {h : AH} {t : Nat} (h32 : t < 32) (lo : ∀ i, i < t → bt v i = false) (ht : bt v t = true) : J6_numberOfTrailingZeros_0f7a4_f v h = some (nI t, h) := by
  rw [nt_ok]
  have e : (v ^^^ (-1)) &&& (v - nI 1) = nI (2 ^ t - 1) := by
    have p1 : 2 ^ t ≤ 2 ^ 31 := Nat.pow_le_pow_right (by decide) (by omega)
    have p0 : 0 < 2 ^ t := Nat.two_pow_pos t
    have n1 := n_low (n := v.toBitVec.toNat) (t := t) lo ht
    have nlt : v.toBitVec.toNat < 4294967296 := v.toBitVec.isLt
    have sb : (v - nI 1).toBitVec.toNat = v.toBitVec.toNat - 1 := by
      rw [Int32.toBitVec_sub, BitVec.toNat_sub]
      show (4294967296 - 1 + v.toBitVec.toNat) % 4294967296 = _
      omega
    apply b_ext
    intro i hi
    have t1 : bt (v - nI 1) i = (v.toBitVec.toNat - 1).testBit i := by rw [← sb]; rfl
    have t2 : bt v i = (v.toBitVec.toNat).testBit i := rfl
    have t3 : bt (nI (2 ^ t - 1)) i = (2 ^ t - 1).testBit i := by
      show (BitVec.ofNat 32 (2 ^ t - 1)).getLsbD i = _
      rw [BitVec.getLsbD_ofNat, decide_eq_true hi, Bool.true_and]
    rw [b_and, b_xor, b_m1 i hi, Bool.xor_true, t1, t2, t3, Nat.testBit_two_pow_sub_one]
    generalize v.toBitVec.toNat = n at n1 nlt
    generalize n / 2 ^ (t + 1) = q at n1
    have b1 : 2 ^ t < 2 ^ (t + 1) := by rw [Nat.pow_succ]; omega
    have b2 : 2 ^ t - 1 < 2 ^ (t + 1) := by omega
    have n2 : n - 1 = 2 ^ (t + 1) * q + (2 ^ t - 1) := by rw [n1]; omega
    rw [n2, n1, Nat.testBit_two_pow_mul_add _ b1, Nat.testBit_two_pow_mul_add _ b2]
    by_cases c : i < t + 1
    · rw [if_pos c, if_pos c, Nat.testBit_two_pow, Nat.testBit_two_pow_sub_one]
      by_cases c2 : i < t
      · rw [decide_eq_true c2, decide_eq_false (by omega)]; rfl
      · rw [decide_eq_false c2]; simp
    · rw [if_neg c, if_neg c, decide_eq_false (by omega)]
      cases q.testBit (i - (t + 1)) <;> rfl
  rw [e, nt_pow t h32]
theorem ntz64 {w : Int64} {h : AH} {t : Nat} (h64 : t < 64) (lo : ∀ i, i < t → tl w i = false) (ht : tl w t = true) : J13_numberOfTrailingZeros_95d88_f w h = some (nI t, h) := by
  have b1 : ∀ i, i < 32 → bt w.toInt32 i = tl w i := fun i hi => bt_i32 hi
  unfold J13_numberOfTrailingZeros_95d88_f
  rw [LT_e]
  rcases Nat.lt_or_ge t 32 with c | c
  · have nz : w.toInt32 ≠ 0 := fun e => by
      have := b1 t c
      rw [e, b_0, ht] at this; exact nomatch this
    rw [if_neg nz, ntz32 c (fun i hi => by rw [b1 i (by omega)]; exact lo i hi) (by rw [b1 t c]; exact ht), BN_ok]
  · have z : w.toInt32 = 0 := by
      apply b_ext
      intro i hi
      rw [b1 i hi, b_0]; exact lo i (by omega)
    have b2 : ∀ i, i < 32 → bt (((w.toUInt64 >>> ((nI 32).toInt64.toUInt64 &&& Int64.toUInt64 63)).toInt64).toInt32) i = tl w (32 + i) := fun i hi => by
      rw [bt_i32 hi]
      show (nL ((w.toUInt64 >>> ((nI 32).toInt64.toUInt64 &&& Int64.toUInt64 63)).toInt64)).testBit i = _
      rw [nL_shr (by decide), Nat.testBit_shiftRight]; rfl
    rw [if_pos z, ntz32 (t := t - 32) (by omega) (fun i hi => by rw [b2 i (by omega)]; exact lo (32 + i) (by omega)) (by rw [b2 (t - 32) (by omega), show 32 + (t - 32) = t by omega]; exact ht), BN_ok, nI_add, show 32 + (t - 32) = t by omega]
