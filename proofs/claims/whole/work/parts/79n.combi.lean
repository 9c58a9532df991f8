/-! SETS of a purse as codes: the places of s falls as digits to 128, rising; the order of the codes is the order of the sets -/
def sD : Nat → Nat → List Nat
  | 1, v => [v]
  | 2, v => [v / 128, v % 128]
  | 3, v => [v / 128 / 128, v / 128 % 128, v % 128]
  | _, _ => []
def vld (N : Nat) : List Nat → Bool
  | [] => true
  | [x] => decide (x < N)
  | [x, y] => decide (x < y ∧ y < N)
  | [x, y, z] => decide (x < y ∧ y < z ∧ z < N)
  | _ => false
def cnK (a l : List Nat) (k : Nat) : Nat := (l.filter fun i => a.getD i 0 / 100 == k).length
def mnt (a : List Nat) (r : NN_) (l : List Nat) : Bool := (List.range 4).all fun k => decide (cnK a l k ≤ r k)
def PS (a : List Nat) (r : NN_) (s v : Nat) : Bool := vld a.length (sD s v) && mnt a r (sD s v)
def sL (a : List Nat) (s v : Nat) : List Nat := (sD s v).map fun i => a.getD i 0
def seg (a : List Nat) (r : NN_) (s lo n : Nat) : List (List Nat) := ((List.range' lo n).filter (PS a r s)).map (sL a s)
section
variable {a : List Nat} {r : NN_} {s : Nat}
theorem seg_app {lo m n : Nat} : seg a r s lo (m + n) = seg a r s lo m ++ seg a r s (lo + m) n := by
  unfold seg
  rw [← List.map_append, ← List.filter_append, List.range'_append_1]
theorem seg_nil {lo n : Nat} (h : ∀ v, lo ≤ v → v < lo + n → PS a r s v = false) : seg a r s lo n = [] := by
  unfold seg
  rw [List.filter_eq_nil_iff.mpr, List.map_nil]
  intro v hv
  have := List.mem_range'_1.mp hv
  rw [h v this.1 this.2]; decide
theorem seg_one {w : Nat} (h : PS a r s w = true) : seg a r s w 1 = [sL a s w] := by
  unfold seg
  show ((List.filter (PS a r s) [w]).map (sL a s)) = _
  rw [List.filter_cons, if_pos h]; rfl
theorem seg_hd {lo w n : Nat} (h1 : lo ≤ w) (h2 : w < lo + n) (h : PS a r s w = true) (no : ∀ v, lo ≤ v → v < w → PS a r s v = false) : seg a r s lo n = sL a s w :: seg a r s (w + 1) (lo + n - (w + 1)) := by
  have e : n = (w - lo) + (1 + (lo + n - (w + 1))) := by omega
  rw [e, seg_app, seg_nil (fun v a b => no v a (by omega)), List.nil_append, show lo + (w - lo) = w by omega, seg_app, seg_one h, show lo + (w - lo + (1 + (lo + n - (w + 1)))) - (w + 1) = lo + n - (w + 1) by omega]; rfl
end
theorem sD_len {s v : Nat} (hs : s ≤ 3) : (sD s v).length = s := by
  have : s = 0 ∨ s = 1 ∨ s = 2 ∨ s = 3 := by omega
  rcases this with rfl | rfl | rfl | rfl <;> rfl
/-- the list behind l: the place kk - 1 goes up, those behind it follow -/
def nxl (l : List Nat) (s kk : Nat) : List Nat := (List.range s).map fun j => if j + 1 < kk then l.getD j 0 else l.getD (kk - 1) 0 + 1 + (j + 1 - kk)
theorem p128 : 128 ^ 3 = 2097152 := by decide
theorem sD3 {x y z : Nat} (hy : y < 128) (hz : z < 128) : sD 3 (x * 16384 + y * 128 + z) = [x, y, z] := by
  have e1 : (x * 16384 + y * 128 + z) / 128 = x * 128 + y := by omega
  have e2 : (x * 16384 + y * 128 + z) % 128 = z := by omega
  show [(x * 16384 + y * 128 + z) / 128 / 128, (x * 16384 + y * 128 + z) / 128 % 128, (x * 16384 + y * 128 + z) % 128] = _
  rw [e1, e2, show (x * 128 + y) / 128 = x by omega, show (x * 128 + y) % 128 = y by omega]
theorem rep3 (u : Nat) : ∃ x y z, y < 128 ∧ z < 128 ∧ u = x * 16384 + y * 128 + z ∧ sD 3 u = [x, y, z] := ⟨u / 128 / 128, u / 128 % 128, u % 128, Nat.mod_lt _ (by decide), Nat.mod_lt _ (by decide), by omega, rfl⟩
theorem nx_last {N s v : Nat} (hs : s ≤ 3) (V : vld N (sD s v) = true) (tp : ∀ j, j < s → (sD s v).getD j 0 + s = N + j) {w : Nat} (hw : v < w) (hw2 : w < 128 ^ s) (hN : N ≤ 120) : vld N (sD s w) = false := by
  have : s = 0 ∨ s = 1 ∨ s = 2 ∨ s = 3 := by omega
  rcases this with rfl | rfl | rfl | rfl
  · have : w < 1 := hw2
    omega
  · have t0 : v + 1 = N + 0 := tp 0 (by decide)
    show decide (w < N) = false
    rw [decide_eq_false_iff_not]; omega
  · have t0 : v / 128 + 2 = N + 0 := tp 0 (by decide)
    have t1 : v % 128 + 2 = N + 1 := tp 1 (by decide)
    show decide (w / 128 < w % 128 ∧ w % 128 < N) = false
    rw [decide_eq_false_iff_not]; omega
  · have t0 : v / 128 / 128 + 3 = N + 0 := tp 0 (by decide)
    have t1 : v / 128 % 128 + 3 = N + 1 := tp 1 (by decide)
    have t2 : v % 128 + 3 = N + 2 := tp 2 (by decide)
    show decide (w / 128 / 128 < w / 128 % 128 ∧ w / 128 % 128 < w % 128 ∧ w % 128 < N) = false
    rw [decide_eq_false_iff_not]; omega
theorem b2x {x : Nat} (h : x < 117) : (x + 1) * 16384 + (x + 2) * 128 + (x + 3) < 128 ^ 3 := by
  have : (128 : Nat) ^ 3 = 2097152 := by decide
  omega
theorem nx_next {N s v kk : Nat} (hs : s ≤ 3) (hv : v < 128 ^ s) (V : vld N (sD s v) = true) (hk : 1 ≤ kk) (hk2 : kk ≤ s) (tp : ∀ j, kk ≤ j → j < s → (sD s v).getD j 0 + s = N + j) (ne : (sD s v).getD (kk - 1) 0 + s ≠ N + (kk - 1)) (hN : N ≤ 120) : ∃ w, v < w ∧ w < 128 ^ s ∧ sD s w = nxl (sD s v) s kk ∧ vld N (sD s w) = true ∧ ∀ u, v < u → u < w → vld N (sD s u) = false := by
  have : s = 1 ∨ s = 2 ∨ s = 3 := by omega
  rcases this with rfl | rfl | rfl
  · have e : kk = 1 := by omega
    subst e
    have n0 : v + 1 ≠ N + 0 := ne
    have V : v < N := of_decide_eq_true V
    refine ⟨v + 1, by omega, by show v + 1 < 128; omega, rfl, decide_eq_true (by omega), fun u h1 h2 => by omega⟩
  · have V : v / 128 < v % 128 ∧ v % 128 < N := of_decide_eq_true V
    have hv : v < 16384 := hv
    have : kk = 1 ∨ kk = 2 := by omega
    rcases this with rfl | rfl
    · have n0 : v / 128 + 2 ≠ N + 0 := ne
      have t1 : v % 128 + 2 = N + 1 := tp 1 (by decide) (by decide)
      refine ⟨(v / 128 + 1) * 128 + (v / 128 + 2), by omega, by show _ < 16384; omega, ?_, decide_eq_true (by omega), fun u h1 h2 => ?_⟩
      · show [((v / 128 + 1) * 128 + (v / 128 + 2)) / 128, ((v / 128 + 1) * 128 + (v / 128 + 2)) % 128] = [v / 128 + 1 + 0, v / 128 + 1 + 1]
        rw [show ((v / 128 + 1) * 128 + (v / 128 + 2)) / 128 = v / 128 + 1 + 0 by omega, show ((v / 128 + 1) * 128 + (v / 128 + 2)) % 128 = v / 128 + 1 + 1 by omega]
      · show decide (u / 128 < u % 128 ∧ u % 128 < N) = false
        rw [decide_eq_false_iff_not]; omega
    · have n1 : v % 128 + 2 ≠ N + 1 := ne
      refine ⟨v + 1, by omega, by show _ < 16384; omega, ?_, decide_eq_true (by omega), fun u h1 h2 => by omega⟩
      show [(v + 1) / 128, (v + 1) % 128] = [v / 128, v % 128 + 1 + 0]
      rw [show (v + 1) / 128 = v / 128 by omega, show (v + 1) % 128 = v % 128 + 1 + 0 by omega]
  · obtain ⟨x, y, z, hy, hz, rfl, e⟩ := rep3 v
    rw [e] at V tp ne ⊢
    have V : x < y ∧ y < z ∧ z < N := of_decide_eq_true V
    have hv : x * 16384 + y * 128 + z < 2097152 := by rw [p128] at hv; exact hv
    have no : ∀ u, (∀ p q t, q < 128 → t < 128 → u = p * 16384 + q * 128 + t → ¬ (p < q ∧ q < t ∧ t < N)) → vld N (sD 3 u) = false := fun u h => by
      obtain ⟨p, q, t, hq, ht, rfl, eu⟩ := rep3 u
      rw [eu]
      exact decide_eq_false (h p q t hq ht rfl)
    have : kk = 1 ∨ kk = 2 ∨ kk = 3 := by omega
    rcases this with rfl | rfl | rfl
    · have n0 : x + 3 ≠ N + 0 := ne
      have t1 : y + 3 = N + 1 := tp 1 (by decide) (by decide)
      have t2 : z + 3 = N + 2 := tp 2 (by decide) (by decide)
      have x1 : x < 117 := by omega
      have b1 : x * 16384 + y * 128 + z < (x + 1) * 16384 + (x + 2) * 128 + (x + 3) := by omega
      have b2 : (x + 1) * 16384 + (x + 2) * 128 + (x + 3) < 128 ^ 3 := b2x x1
      refine ⟨(x + 1) * 16384 + (x + 2) * 128 + (x + 3), b1, b2, ?_, ?_, fun u h1 h2 => no u (fun p q t hq ht eu => by
        rcases Nat.lt_trichotomy p x with c | c | c
        · omega
        · subst c
          rcases Nat.lt_trichotomy q y with d | d | d
          · omega
          · omega
          · omega
        · omega)⟩
      · rw [sD3 (by omega) (by omega)]; rfl
      · rw [sD3 (by omega) (by omega)]; exact decide_eq_true (by omega)
    · have n1 : y + 3 ≠ N + 1 := ne
      have t2 : z + 3 = N + 2 := tp 2 (by decide) (by decide)
      refine ⟨x * 16384 + (y + 1) * 128 + (y + 2), by omega, by rw [p128]; omega, ?_, ?_, fun u h1 h2 => no u (fun p q t hq ht eu => by
        rcases Nat.lt_trichotomy p x with c | c | c
        · omega
        · subst c
          rcases Nat.lt_trichotomy q y with d | d | d
          · omega
          · omega
          · omega
        · omega)⟩
      · rw [sD3 (by omega) (by omega)]; rfl
      · rw [sD3 (by omega) (by omega)]; exact decide_eq_true (by omega)
    · have n2 : z + 3 ≠ N + 2 := ne
      refine ⟨x * 16384 + y * 128 + (z + 1), by omega, by rw [p128]; omega, ?_, ?_, fun u h1 h2 => by omega⟩
      · rw [sD3 (by omega) (by omega)]; rfl
      · rw [sD3 (by omega) (by omega)]; exact decide_eq_true (by omega)
/-- the first list -/
def fsV : Nat → Nat
  | 2 => 1
  | 3 => 130
  | _ => 0
theorem fs_ok {N s : Nat} (hs : s ≤ 3) (hN : s ≤ N) : sD s (fsV s) = List.range s ∧ fsV s < 128 ^ s ∧ vld N (sD s (fsV s)) = true ∧ ∀ u, u < fsV s → vld N (sD s u) = false := by
  have : s = 0 ∨ s = 1 ∨ s = 2 ∨ s = 3 := by omega
  rcases this with rfl | rfl | rfl | rfl
  · exact ⟨rfl, by decide, rfl, fun u hu => absurd hu (Nat.not_lt_zero _)⟩
  · exact ⟨rfl, by decide, by show decide (0 < N) = true; exact decide_eq_true (by omega), fun u hu => absurd hu (Nat.not_lt_zero _)⟩
  · refine ⟨rfl, by decide, by show decide (0 < 1 ∧ 1 < N) = true; exact decide_eq_true (by omega), fun u hu => ?_⟩
    have hu : u < 1 := hu
    show decide (u / 128 < u % 128 ∧ u % 128 < N) = false
    rw [decide_eq_false_iff_not]; omega
  · refine ⟨rfl, by decide, by show decide (0 < 1 ∧ 1 < 2 ∧ 2 < N) = true; exact decide_eq_true (by omega), fun u hu => ?_⟩
    have hu : u < 130 := hu
    show decide (u / 128 / 128 < u / 128 % 128 ∧ u / 128 % 128 < u % 128 ∧ u % 128 < N) = false
    rw [decide_eq_false_iff_not]; omega
theorem fs_none {N s u : Nat} (hs : s ≤ 3) (hN : N < s) : vld N (sD s u) = false := by
  have : s = 1 ∨ s = 2 ∨ s = 3 := by omega
  rcases this with rfl | rfl | rfl
  · show decide (u < N) = false
    rw [decide_eq_false_iff_not]; omega
  · show decide (u / 128 < u % 128 ∧ u % 128 < N) = false
    rw [decide_eq_false_iff_not]; omega
  · show decide (u / 128 / 128 < u / 128 % 128 ∧ u / 128 % 128 < u % 128 ∧ u % 128 < N) = false
    rw [decide_eq_false_iff_not]; omega
theorem vld_lt {N s v j : Nat} (hs : s ≤ 3) (hj : j < s) (V : vld N (sD s v) = true) : (sD s v).getD j 0 + s ≤ N + j := by
  have : s = 1 ∨ s = 2 ∨ s = 3 := by omega
  rcases this with rfl | rfl | rfl
  · have V : v < N := of_decide_eq_true V
    have : j = 0 := by omega
    subst this
    show v + 1 ≤ N + 0
    omega
  · have V : v / 128 < v % 128 ∧ v % 128 < N := of_decide_eq_true V
    have : j = 0 ∨ j = 1 := by omega
    rcases this with rfl | rfl
    · show v / 128 + 2 ≤ N + 0
      omega
    · show v % 128 + 2 ≤ N + 1
      omega
  · have V : v / 128 / 128 < v / 128 % 128 ∧ v / 128 % 128 < v % 128 ∧ v % 128 < N := of_decide_eq_true V
    have : j = 0 ∨ j = 1 ∨ j = 2 := by omega
    rcases this with rfl | rfl | rfl
    · show v / 128 / 128 + 3 ≤ N + 0
      omega
    · show v / 128 % 128 + 3 ≤ N + 1
      omega
    · show v % 128 + 3 ≤ N + 2
      omega
theorem nxl_len {l : List Nat} {s kk : Nat} : (nxl l s kk).length = s := by unfold nxl; rw [List.length_map, List.length_range]
theorem nxl_get {l : List Nat} {s kk j : Nat} (hj : j < s) : (nxl l s kk).getD j 0 = if j + 1 < kk then l.getD j 0 else l.getD (kk - 1) 0 + 1 + (j + 1 - kk) := by
  unfold nxl
  rw [List.getD_eq_getElem?_getD, List.getElem?_map, List.getElem?_range hj]; rfl
/-- a stem and one more -/
theorem sD_st {s v : Nat} (hs : s ≤ 2) : sD (s + 1) v = sD s (v / 128) ++ [if s = 0 then v else v % 128] := by
  have : s = 0 ∨ s = 1 ∨ s = 2 := by omega
  rcases this with rfl | rfl | rfl
  · rfl
  · rfl
  · rfl
theorem vld_st {N s v : Nat} (hs : s ≤ 2) (V : vld N (sD (s + 1) v) = true) : vld N (sD s (v / 128)) = true := by
  have : s = 0 ∨ s = 1 ∨ s = 2 := by omega
  rcases this with rfl | rfl | rfl
  · rfl
  · have V : v / 128 < v % 128 ∧ v % 128 < N := of_decide_eq_true V
    exact decide_eq_true (by omega)
  · have V : v / 128 / 128 < v / 128 % 128 ∧ v / 128 % 128 < v % 128 ∧ v % 128 < N := of_decide_eq_true V
    exact decide_eq_true (by omega)
