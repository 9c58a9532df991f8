/-! how many sets: the product against the counting -/
def kdA (a : List Nat) (i : Nat) : Nat := a.getD i 0 / 100
def dcR (r : NN_) (k : Nat) : NN_ := fun j => if j = k then r j - 1 else r j
/-- meant sublists of s falls; of any number -/
def cF : List Nat → NN_ → Nat → Nat
  | _, _, 0 => 1
  | [], _, _ + 1 => 0
  | x :: a, r, s + 1 => cF a r (s + 1) + if 1 ≤ r (x / 100) then cF a (dcR r (x / 100)) s else 0
def cW : List Nat → NN_ → Nat
  | [], _ => 1
  | x :: a, r => cW a r + if 1 ≤ r (x / 100) then cW a (dcR r (x / 100)) else 0
def smF (a : List Nat) (r : NN_) : Nat → Nat
  | 0 => 1
  | s + 1 => smF a r s + cF a r (s + 1)
def rT (r : NN_) : Nat := r 0 + r 1 + r 2 + r 3
theorem rT_dc {r : NN_} {k : Nat} (hk : k < 4) (h : 1 ≤ r k) : rT (dcR r k) + 1 = rT r := by
  have : k = 0 ∨ k = 1 ∨ k = 2 ∨ k = 3 := by omega
  unfold rT dcR
  rcases this with rfl | rfl | rfl | rfl
  · simp only [if_pos, show ¬ (1 = 0) from by decide, show ¬ (2 = 0) from by decide, show ¬ (3 = 0) from by decide, if_false]
    omega
  · simp only [show ¬ (0 = 1) from by decide, show ¬ (2 = 1) from by decide, show ¬ (3 = 1) from by decide, if_false, if_pos]
    omega
  · simp only [show ¬ (0 = 2) from by decide, show ¬ (1 = 2) from by decide, show ¬ (3 = 2) from by decide, if_false, if_pos]
    omega
  · simp only [show ¬ (0 = 3) from by decide, show ¬ (1 = 3) from by decide, show ¬ (2 = 3) from by decide, if_false, if_pos]
    omega
theorem smF_s {x : Nat} {a : List Nat} {r : NN_} : ∀ s, smF (x :: a) r (s + 1) = smF a r (s + 1) + if 1 ≤ r (x / 100) then smF a (dcR r (x / 100)) s else 0 := by
  intro s
  induction s with
  | zero =>
    show 1 + (cF a r 1 + if 1 ≤ r (x / 100) then cF a (dcR r (x / 100)) 0 else 0) = (1 + cF a r 1) + if 1 ≤ r (x / 100) then 1 else 0
    have : cF a (dcR r (x / 100)) 0 = 1 := by cases a <;> rfl
    rw [this]; omega
  | succ s ih =>
    show smF (x :: a) r (s + 1) + (cF a r (s + 2) + if 1 ≤ r (x / 100) then cF a (dcR r (x / 100)) (s + 1) else 0) = (smF a r (s + 1) + cF a r (s + 2)) + if 1 ≤ r (x / 100) then smF a (dcR r (x / 100)) s + cF a (dcR r (x / 100)) (s + 1) else 0
    rw [ih]
    split <;> omega
theorem smF_nil {r : NN_} : ∀ T, smF [] r T = 1 := by
  intro T
  induction T with
  | zero => rfl
  | succ T ih => show smF [] r T + 0 = 1; rw [ih]
theorem smF_W : ∀ (a : List Nat) (r : NN_) T, (∀ d, d ∈ a → d / 100 < 4) → rT r ≤ T → smF a r T = cW a r := by
  intro a
  induction a with
  | nil =>
    intro r T _ _
    exact smF_nil T
  | cons x a ih =>
    intro r T hk hT
    have hx := hk x List.mem_cons_self
    have ha : ∀ d, d ∈ a → d / 100 < 4 := fun d hd => hk d (List.mem_cons_of_mem _ hd)
    show _ = cW a r + if 1 ≤ r (x / 100) then cW a (dcR r (x / 100)) else 0
    cases T with
    | zero =>
      have : ¬ 1 ≤ r (x / 100) := fun c => by have := rT_dc hx c; omega
      rw [if_neg this, ← ih r 0 ha hT]; rfl
    | succ T =>
      rw [smF_s, ih r (T + 1) ha hT]
      by_cases c : 1 ≤ r (x / 100)
      · have := rT_dc hx c
        rw [if_pos c, if_pos c, ih _ T ha (by omega)]
      · rw [if_neg c, if_neg c]
/-- blocks of one kind -/
def chN (N : Nat) : Nat → Nat
  | 0 => 1
  | j + 1 => chN N j * (N - j) / (j + 1)
def wyN (N : Nat) : Nat → Nat
  | 0 => 1
  | j + 1 => wyN N j + chN N (j + 1)
theorem wy_dec : ∀ N, N < 37 → ∀ j, j < 4 → chN N j ≤ 7140 ∧ wyN N j ≤ 10000 ∧ (N < j → chN N j = 0) := by decide +kernel
theorem wy_pas : ∀ N, N < 36 → ∀ j, j < 3 → wyN (N + 1) (j + 1) = wyN N (j + 1) + wyN N j := by decide +kernel
theorem wy_0 : ∀ j, j < 4 → wyN 0 j = 1 := by decide
theorem cW_cg : ∀ (a : List Nat) (r q : NN_), (∀ d, d ∈ a → r (d / 100) = q (d / 100)) → cW a r = cW a q := by
  intro a
  induction a with
  | nil => intro r q _; rfl
  | cons x a ih =>
    intro r q h
    have hx := h x List.mem_cons_self
    have ha : ∀ d, d ∈ a → r (d / 100) = q (d / 100) := fun d hd => h d (List.mem_cons_of_mem _ hd)
    show cW a r + (if 1 ≤ r (x / 100) then cW a (dcR r (x / 100)) else 0) = cW a q + if 1 ≤ q (x / 100) then cW a (dcR q (x / 100)) else 0
    rw [ih r q ha, hx, ih (dcR r (x / 100)) (dcR q (x / 100)) (fun d hd => by
      unfold dcR
      rw [ha d hd])]
theorem cW_bl {k : Nat} {rest : List Nat} (hr : ∀ d, d ∈ rest → d / 100 ≠ k) : ∀ (b : List Nat) (r : NN_), (∀ d, d ∈ b → d / 100 = k) → b.length ≤ 36 → r k ≤ 3 → cW (b ++ rest) r = wyN b.length (r k) * cW rest r := by
  intro b
  induction b with
  | nil =>
    intro r _ _ h3
    rw [List.nil_append, List.length_nil, wy_0 (r k) (by omega), Nat.one_mul]
  | cons x b ih =>
    intro r hb hl h3
    have hx := hb x List.mem_cons_self
    have hb' : ∀ d, d ∈ b → d / 100 = k := fun d hd => hb d (List.mem_cons_of_mem _ hd)
    have hl : b.length + 1 ≤ 36 := hl
    show cW (b ++ rest) r + (if 1 ≤ r (x / 100) then cW (b ++ rest) (dcR r (x / 100)) else 0) = wyN (b.length + 1) (r k) * cW rest r
    rw [hx, ih r hb' (by omega) h3]
    have dk : dcR r k k = r k - 1 := by unfold dcR; rw [if_pos rfl]
    by_cases c : 1 ≤ r k
    · rw [if_pos c, ih (dcR r k) hb' (by omega) (by rw [dk]; omega), dk, cW_cg rest (dcR r k) r (fun d hd => by unfold dcR; rw [if_neg (hr d hd)])]
      have := wy_pas b.length (by omega) (r k - 1) (by omega)
      rw [show r k - 1 + 1 = r k by omega] at this
      rw [this, Nat.add_mul]
    · rw [if_neg c, Nat.add_zero, show r k = 0 by omega]; rfl
/-- codes, digit by digit -/
def okL (a : List Nat) : NN_ → Nat → List Nat → Bool
  | _, _, [] => true
  | r, i, x :: l => decide (i ≤ x ∧ x < a.length ∧ 1 ≤ r (kdA a x)) && okL a (dcR r (kdA a x)) (x + 1) l
theorem flt_blocks {M : Nat} (Q : Nat → Nat → Bool) (hM : 0 < M) : ∀ k, ((List.range (k * M)).filter fun v => Q (v / M) (v % M)).length = (List.range k).foldl (fun n x => n + ((List.range M).filter (Q x)).length) 0 := by
  intro k
  induction k with
  | zero => rw [Nat.zero_mul]; rfl
  | succ k ih =>
    rw [Nat.succ_mul, List.range_add, List.filter_append, List.length_append, ih, List.range_succ, List.foldl_append, List.filter_map, List.length_map]
    show _ = _ + _
    congr 2
    apply List.filter_congr
    intro w hw
    have hw := List.mem_range.mp hw
    show Q ((k * M + w) / M) ((k * M + w) % M) = Q k w
    rw [Nat.mul_comm k M, Nat.mul_add_div hM, Nat.div_eq_of_lt hw, Nat.add_zero, Nat.mul_add_mod, Nat.mod_eq_of_lt hw]
def nC (a : List Nat) (r : NN_) (i s : Nat) : Nat := ((List.range (128 ^ s)).filter fun v => okL a r i (sD s v)).length
theorem sD_hd {s v : Nat} (hs : s ≤ 2) (hv : v < 128 ^ (s + 1)) : sD (s + 1) v = v / 128 ^ s :: sD s (v % 128 ^ s) := by
  have : s = 0 ∨ s = 1 ∨ s = 2 := by omega
  rcases this with rfl | rfl | rfl
  · show [v] = [v / 1]; rw [Nat.div_one]
  · rfl
  · show [v / 128 / 128, v / 128 % 128, v % 128] = [v / 128 ^ 2, v % 128 ^ 2 / 128, v % 128 ^ 2 % 128]
    have e : (128 : Nat) ^ 2 = 16384 := by decide
    rw [e]
    have e1 : v / 128 / 128 = v / 16384 := by rw [Nat.div_div_eq_div_mul]
    have e2 : v % 16384 / 128 = v / 128 % 128 := by rw [show 16384 = 128 * 128 from rfl, Nat.mod_mul_right_div_self]
    have e3 : v % 16384 % 128 = v % 128 := by rw [show 16384 = 128 * 128 from rfl, Nat.mod_mul_left_mod]
    rw [e1, e2, e3]
def smR (f : Nat → Nat) (i : Nat) : Nat → Nat
  | 0 => 0
  | n + 1 => f i + smR f (i + 1) n
theorem nC_s {a : List Nat} {r : NN_} {i s : Nat} (hs : s ≤ 2) : nC a r i (s + 1) = (List.range 128).foldl (fun n x => n + if i ≤ x ∧ x < a.length ∧ 1 ≤ r (kdA a x) then nC a (dcR r (kdA a x)) (x + 1) s else 0) 0 := by
  have pos : 0 < 128 ^ s := Nat.pow_pos (by decide)
  have e : nC a r i (s + 1) = ((List.range (128 * 128 ^ s)).filter fun v => (fun x w => okL a r i (x :: sD s w)) (v / 128 ^ s) (v % 128 ^ s)).length := by
    unfold nC
    rw [Nat.pow_succ, Nat.mul_comm]
    congr 1
    apply List.filter_congr
    intro v hv
    have hv := List.mem_range.mp hv
    rw [sD_hd hs (by rw [Nat.pow_succ, Nat.mul_comm]; exact hv)]
  rw [e, flt_blocks (fun x w => okL a r i (x :: sD s w)) pos 128]
  congr 1
  funext n x
  congr 1
  by_cases c : i ≤ x ∧ x < a.length ∧ 1 ≤ r (kdA a x)
  · rw [if_pos c]
    unfold nC
    congr 1
    apply List.filter_congr
    intro w _
    show (decide (i ≤ x ∧ x < a.length ∧ 1 ≤ r (kdA a x)) && _) = _
    rw [decide_eq_true c, Bool.true_and]
  · rw [if_neg c]
    rw [List.length_eq_zero_iff, List.filter_eq_nil_iff]
    intro w _
    show ¬ (decide (i ≤ x ∧ x < a.length ∧ 1 ≤ r (kdA a x)) && _) = true
    rw [decide_eq_false c, Bool.false_and]; decide
theorem fold_add {f : Nat → Nat} : ∀ (L : List Nat) n, L.foldl (fun n x => n + f x) n = n + L.foldl (fun n x => n + f x) 0 := by
  intro L
  induction L with
  | nil => intro n; rfl
  | cons x L ih => intro n; rw [List.foldl_cons, List.foldl_cons, ih, ih (0 + f x)]; omega
theorem fold_cut {f : Nat → Nat} {i N : Nat} (h : ∀ x, x < i ∨ N ≤ x → f x = 0) (hN : N ≤ 128) (hi : i ≤ N) : (List.range 128).foldl (fun n x => n + f x) 0 = smR f i (N - i) := by
  have key : ∀ k j, j + k = 128 → (List.range' j k).foldl (fun n x => n + f x) 0 = if j < i then smR f i (N - i) else smR f j (N - j) := by
    intro k
    induction k with
    | zero =>
      intro j hj
      rw [if_neg (by omega), show N - j = 0 by omega]; rfl
    | succ k ih =>
      intro j hj
      rw [List.range'_succ, List.foldl_cons, fold_add, ih (j + 1) (by omega)]
      by_cases c : j < i
      · rw [if_pos c, h j (.inl c)]
        by_cases c2 : j + 1 < i
        · rw [if_pos c2]; omega
        · rw [if_neg c2, show j + 1 = i by omega]; omega
      · rw [if_neg c, if_neg (by omega)]
        by_cases c2 : j < N
        · rw [show N - j = (N - (j + 1)) + 1 by omega, smR]; omega
        · rw [h j (.inr (by omega)), show N - j = 0 by omega, show N - (j + 1) = 0 by omega]; rfl
  have := key 128 0 (by omega)
  rw [List.range_eq_range']
  rw [this]
  split
  · rfl
  · next c => rw [show i = 0 by omega]
theorem nC_F {a : List Nat} (N120 : a.length ≤ 120) : ∀ s r i, s ≤ 3 → i ≤ a.length → nC a r i s = cF (a.drop i) r s := by
  intro s
  induction s with
  | zero =>
    intro r i _ _
    have : cF (a.drop i) r 0 = 1 := by cases a.drop i <;> rfl
    rw [this]; rfl
  | succ s ih =>
    intro r i hs hi
    rw [nC_s (by omega), fold_cut (f := fun x => if i ≤ x ∧ x < a.length ∧ 1 ≤ r (kdA a x) then nC a (dcR r (kdA a x)) (x + 1) s else 0) (i := i) (N := a.length) (fun x hx => if_neg (by omega)) (by omega) hi]
    have key : ∀ k j, j + k = a.length → i ≤ j → smR (fun x => if i ≤ x ∧ x < a.length ∧ 1 ≤ r (kdA a x) then nC a (dcR r (kdA a x)) (x + 1) s else 0) j k = cF (a.drop j) r (s + 1) := by
      intro k
      induction k with
      | zero =>
        intro j hj _
        rw [List.drop_eq_nil_of_le (by omega)]; rfl
      | succ k ihk =>
        intro j hj hij
        rw [smR, ihk (j + 1) (by omega) (by omega), drop_get (l := a) (j := j) (by omega)]
        show (if i ≤ j ∧ j < a.length ∧ 1 ≤ r (kdA a j) then _ else 0) + _ = cF (a.drop (j + 1)) r (s + 1) + if 1 ≤ r (kdA a j) then cF (a.drop (j + 1)) (dcR r (kdA a j)) s else 0
        by_cases c : 1 ≤ r (kdA a j)
        · rw [if_pos ⟨hij, by omega, c⟩, if_pos c, ih _ (j + 1) (by omega) (by omega)]
          exact Nat.add_comm _ _
        · rw [if_neg (fun q => c q.2.2), if_neg c]; omega
    exact key (a.length - i) i (by omega) (Nat.le_refl _)
/-- the filter of the codes is the one by digits -/
theorem mnt_cons {a l : List Nat} {r : NN_} {x : Nat} (hx : kdA a x < 4) : mnt a r (x :: l) = (decide (1 ≤ r (kdA a x)) && mnt a (dcR r (kdA a x)) l) := by
  have e : ∀ k, cnK a (x :: l) k = (if kdA a x = k then 1 else 0) + cnK a l k := fun k => by
    unfold cnK
    rw [List.filter_cons]
    by_cases c : a.getD x 0 / 100 = k
    · rw [if_pos (by simpa using c), if_pos (show kdA a x = k from c), List.length_cons, Nat.add_comm]
    · rw [if_neg (by simpa using c), if_neg (show ¬ kdA a x = k from c), Nat.zero_add]
  rw [Bool.eq_iff_iff, Bool.and_eq_true, decide_eq_true_eq, mnt_iff, mnt_iff]
  constructor
  · intro h
    have h1 := h _ hx
    rw [e, if_pos rfl] at h1
    refine ⟨by omega, fun k hk => ?_⟩
    have h2 := h k hk
    rw [e] at h2
    unfold dcR
    by_cases c : k = kdA a x
    · rw [if_pos c]; rw [if_pos c.symm] at h2; omega
    · rw [if_neg c]; rw [if_neg (fun q => c q.symm)] at h2; omega
  · rintro ⟨h1, h2⟩ k hk
    have h3 := h2 k hk
    unfold dcR at h3
    rw [e]
    by_cases c : k = kdA a x
    · subst c
      rw [if_pos rfl] at h3
      rw [if_pos rfl]; omega
    · rw [if_neg c] at h3; rw [if_neg (fun q => c q.symm)]; omega
theorem mnt_nil {a : List Nat} {r : NN_} : mnt a r [] = true := mnt_iff.mpr (fun k _ => Nat.zero_le _)
def vg (N : Nat) : Nat → List Nat → Bool
  | _, [] => true
  | i, x :: l => decide (i ≤ x ∧ x < N) && vg N (x + 1) l
theorem okL_vg {a : List Nat} (ao : ∀ d, d ∈ a → d < 400) : ∀ (l : List Nat) r i, okL a r i l = (vg a.length i l && mnt a r l) := by
  have k4 : ∀ x, x < a.length → kdA a x < 4 := fun x hx => by have := ao _ (getD_mem hx); unfold kdA; omega
  intro l
  induction l with
  | nil => intro r i; rw [mnt_nil]; rfl
  | cons x l ih =>
    intro r i
    show (decide (i ≤ x ∧ x < a.length ∧ 1 ≤ r (kdA a x)) && okL a (dcR r (kdA a x)) (x + 1) l) = ((decide (i ≤ x ∧ x < a.length) && vg a.length (x + 1) l) && mnt a r (x :: l))
    by_cases c : i ≤ x ∧ x < a.length
    · rw [mnt_cons (k4 x c.2), ih, decide_eq_true c, Bool.true_and]
      have : decide (i ≤ x ∧ x < a.length ∧ 1 ≤ r (kdA a x)) = decide (1 ≤ r (kdA a x)) := decide_eq_decide.mpr ⟨fun q => q.2.2, fun q => ⟨c.1, c.2, q⟩⟩
      rw [this, Bool.and_left_comm]
    · rw [decide_eq_false c, decide_eq_false (fun q => c ⟨q.1, q.2.1⟩)]; rfl
theorem vld_vg {N s v : Nat} (h1 : 1 ≤ s) (h3 : s ≤ 3) : vld N (sD s v) = vg N 0 (sD s v) := by
  have : s = 1 ∨ s = 2 ∨ s = 3 := by omega
  rcases this with rfl | rfl | rfl
  · show decide (v < N) = (decide (0 ≤ v ∧ v < N) && true)
    rw [Bool.and_true]
    exact decide_eq_decide.mpr (by omega)
  · show decide (v / 128 < v % 128 ∧ v % 128 < N) = (decide (0 ≤ v / 128 ∧ v / 128 < N) && (decide (v / 128 + 1 ≤ v % 128 ∧ v % 128 < N) && true))
    generalize v / 128 = x
    generalize v % 128 = y
    rw [Bool.and_true, ← Bool.decide_and]
    exact decide_eq_decide.mpr (by omega)
  · show decide (v / 128 / 128 < v / 128 % 128 ∧ v / 128 % 128 < v % 128 ∧ v % 128 < N) = (decide (0 ≤ v / 128 / 128 ∧ v / 128 / 128 < N) && (decide (v / 128 / 128 + 1 ≤ v / 128 % 128 ∧ v / 128 % 128 < N) && (decide (v / 128 % 128 + 1 ≤ v % 128 ∧ v % 128 < N) && true)))
    generalize v / 128 / 128 = x
    generalize v / 128 % 128 = y
    generalize v % 128 = z
    rw [Bool.and_true, ← Bool.decide_and, ← Bool.decide_and]
    exact decide_eq_decide.mpr (by omega)
theorem seg_cnt {a : List Nat} {r : NN_} {s : Nat} (ao : ∀ d, d ∈ a → d < 400) (N120 : a.length ≤ 120) (h1 : 1 ≤ s) (h3 : s ≤ 3) : (seg a r s 0 (128 ^ s)).length = cF a r s := by
  have := nC_F (a := a) N120 s r 0 h3 (Nat.zero_le _)
  rw [List.drop_zero] at this
  rw [← this]
  unfold seg nC
  rw [List.length_map, List.range_eq_range']
  congr 1
  apply List.filter_congr
  intro v _
  unfold PS
  rw [okL_vg ao, vld_vg h1 h3]
theorem ups_cnt {a : List Nat} {r : NN_} (ao : ∀ d, d ∈ a → d < 400) (N120 : a.length ≤ 120) : ∀ T, T ≤ 3 → (ups a r 1 T).length + 1 = smF a r T := by
  intro T
  induction T with
  | zero => intro _; rfl
  | succ T ih =>
    intro h
    have e : ups a r 1 (T + 1) = ups a r 1 T ++ seg a r (1 + T) 0 (128 ^ (1 + T)) := by
      unfold ups
      rw [← List.range'_append_1 (s := 1) (m := T) (n := 1), List.flatMap_append]
      show _ ++ ([1 + T].flatMap _) = _
      rw [List.flatMap_cons, List.flatMap_nil, List.append_nil]
    rw [e, List.length_append, seg_cnt ao N120 (by omega) (by omega)]
    show _ = smF a r T + cF a r (T + 1)
    rw [← ih (by omega), Nat.add_comm 1 T]
    omega
/-- the blocks of ALL FALLS -/
def bkL (p : PR) (r : NN_) (k : Nat) : List Nat := if r k = 0 then [] else whL p k 0 (thg p k)
theorem bk_kind {p : PR} {r : NN_} {k d : Nat} (w : WB p.1) (hx : pl p ≤ 6) (h : d ∈ bkL p r k) : d / 100 = k := by
  unfold bkL at h
  split at h
  · exact absurd h List.not_mem_nil
  · unfold whL at h
    rw [List.mem_flatMap] at h
    obtain ⟨c, hc, h⟩ := h
    have hc := List.mem_range'_1.mp hc
    unfold tkL at h
    rw [List.mem_map] at h
    obtain ⟨t, ht, h⟩ := h
    have ht := List.mem_range'_1.mp ht
    have := thg6 w k
    omega
theorem bk_len {p : PR} {r : NN_} {k : Nat} (w : WB p.1) (hx : pl p ≤ 6) : (bkL p r k).length ≤ 36 := by
  unfold bkL
  split
  · exact Nat.zero_le _
  · rw [whL_len]
    exact Nat.mul_le_mul (thg6 w k) hx
theorem alF_bk {p : PR} {r : NN_} : alF p r = bkL p r 0 ++ (bkL p r 1 ++ (bkL p r 2 ++ (bkL p r 3 ++ []))) := by
  unfold alF
  rw [kdL_s, kdL_s, kdL_s, kdL_s]; rfl
theorem sets_W {p : PR} {r : NN_} (w : WB p.1) (hx : pl p ≤ 6) (x : r 0 + r 1 + r 2 + r 3 ≤ 3) : (ups (alF p r) r 1 (r 0 + r 1 + r 2 + r 3)).length + 1 = wyN (bkL p r 0).length (r 0) * (wyN (bkL p r 1).length (r 1) * (wyN (bkL p r 2).length (r 2) * (wyN (bkL p r 3).length (r 3) * 1))) := by
  have ao : ∀ d, d ∈ alF p r → d < 400 := fun d hd => (alF_ok w hx hd).1.1
  rw [ups_cnt ao (alF_len w hx) _ x, smF_W (alF p r) r (r 0 + r 1 + r 2 + r 3) (fun d hd => by have := ao d hd; omega) (Nat.le_refl _), alF_bk]
  rw [cW_bl (k := 0) (fun d hd => by
    rcases List.mem_append.mp hd with h | h
    · rw [bk_kind w hx h]; decide
    · rcases List.mem_append.mp h with h | h
      · rw [bk_kind w hx h]; decide
      · rcases List.mem_append.mp h with h | h
        · rw [bk_kind w hx h]; decide
        · exact absurd h List.not_mem_nil) _ r (fun d hd => bk_kind w hx hd) (bk_len w hx) (by omega)]
  rw [cW_bl (k := 1) (fun d hd => by
      rcases List.mem_append.mp hd with h | h
      · rw [bk_kind w hx h]; decide
      · rcases List.mem_append.mp h with h | h
        · rw [bk_kind w hx h]; decide
        · exact absurd h List.not_mem_nil) _ r (fun d hd => bk_kind w hx hd) (bk_len w hx) (by omega)]
  rw [cW_bl (k := 2) (fun d hd => by
        rcases List.mem_append.mp hd with h | h
        · rw [bk_kind w hx h]; decide
        · exact absurd h List.not_mem_nil) _ r (fun d hd => bk_kind w hx hd) (bk_len w hx) (by omega)]
  rw [cW_bl (k := 3) (fun d hd => absurd hd List.not_mem_nil) _ r (fun d hd => bk_kind w hx hd) (bk_len w hx) (by omega)]
  rfl
