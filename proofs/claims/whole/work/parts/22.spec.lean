/-! THE RUN, plainly. B key place: 0 machines 1 rows 2 facts 3 rules 4 sends 5 maybes (at 0) 6 the kept rows as bits; 7 factRow 8 factAt 9 maybe + 1 (0: none); clauses c (rules 0 .. 9, sends 10 .. 15): 10 row 11 place + 1 (0: each) 12 target 13 now 14 cases; 20 + c caseRow, 40 + c caseNot; 60 pres 61 posts 62 preRow 63 preAt 64 postRow 65 postAt -/
abbrev BK : Type := Nat → Nat → Nat
/-- book, last, start, kept, again, bare -/
abbrev PR : Type := BK × Nat × Int32 × Int32 × Int32 × Int32
/-- lost, late (send, tick), down (machine, tick) -/
abbrev FL : Type := (Nat → Nat → Bool) × (Nat → Nat → Bool) × (Nat → Nat → Bool)
def pl (p : PR) : Nat := p.2.1
def pS (p : PR) : Int32 := p.2.2.1
def pK (p : PR) : Int32 := p.2.2.2.1
def pA (p : PR) : Int32 := p.2.2.2.2.1
def pb (p : PR) : Int32 := p.2.2.2.2.2
def fO (f : FL) (s t : Nat) : Bool := f.1 s t
def fA (f : FL) (s t : Nat) : Bool := f.2.1 s t
def fD (f : FL) (m t : Nat) : Bool := f.2.2 m t
/-- the cases from the k-th on hold -/
def cHf (B : BK) (c : Nat) (bare : Bool) (X : Nat → Bool) (k : Nat) : Bool := (List.range (B 14 c - k)).all fun i => if B (40 + c) (k + i) = 0 then X (B (20 + c) (k + i)) else bare || !X (B (20 + c) (k + i))
def cH (B : BK) (c : Nat) (bare : Bool) (X : Nat → Bool) : Bool := cHf B c bare X 0
def isF (B : BK) (c m : Nat) : Bool := B 11 c == 0 || B 11 c == m + 1
def pas (B : BK) (m : Nat) (X : Nat → Bool) : Nat → Nat → Bool
  | 0 => X
  | k + 1 => if B 13 k = 1 ∧ isF B k m = true ∧ cH B k false (pas B m X k) = true then fun r => pas B m X k r || r == B 10 k else pas B m X k
def clo (B : BK) (m : Nat) : Nat → (Nat → Bool) → Nat → Bool
  | 0, X => X
  | n + 1, X => clo B m n (pas B m X (B 3 0))
def factB (p : PR) (m r : Nat) : Bool := (List.range (p.1 2 0)).any fun i => p.1 7 i == r && p.1 8 i == m && (p.1 9 i == 0 || bt (pS p) (p.1 9 i - 1))
def hB (p : PR) (f : FL) (T : Nat → Nat → Nat → Bool) (s u : Nat) : Bool := !fD f (p.1 11 (10 + s) - 1) u && cH p.1 (10 + s) (bt (pb p) s) (T u (p.1 11 (10 + s) - 1))
def sntB (p : PR) (f : FL) (T : Nat → Nat → Nat → Bool) (s u : Nat) : Bool := hB p f T s u || (bt (pA p) s && decide (0 < u) && hB p f T s (u - 1) && !fD f (p.1 11 (10 + s) - 1) u)
def cmB (p : PR) (f : FL) (T : Nat → Nat → Nat → Bool) (s u t : Nat) : Bool := sntB p f T s u && !fO f s u && u + (if fA f s u then 3 else 1) == t
def arrB (p : PR) (f : FL) (T : Nat → Nat → Nat → Bool) (t m r : Nat) : Bool := (List.range (p.1 4 0)).any fun s => p.1 12 (10 + s) == m && p.1 10 (10 + s) == r && (List.range t).any fun u => cmB p f T s u t
def kf (f : FL) (m : Nat) : Nat → Nat
  | 0 => 0
  | t + 1 => if fD f m t then kf f m t else t + 1
def kpB (f : FL) (T : Nat → Nat → Nat → Bool) (t m r : Nat) : Bool := decide (kf f m t ≠ 0) && T (kf f m t - 1) m r
def nxB (p : PR) (f : FL) (T : Nat → Nat → Nat → Bool) (t m r : Nat) : Bool := decide (0 < t) && !fD f m (t - 1) && (List.range (p.1 3 0)).any fun i => p.1 13 i == 0 && isF p.1 i m && p.1 10 i == r && cH p.1 i false (T (t - 1) m)
def preB (p : PR) (f : FL) (T : Nat → Nat → Nat → Bool) (t m r : Nat) : Bool := (decide (t = 0) && factB p m r) || arrB p f T t m r || (bt (pK p) r && kpB f T t m r) || nxB p f T t m r
def hist (p : PR) (f : FL) : Nat → Nat → Nat → Nat → Bool
  | 0 => fun _ _ _ => false
  | n + 1 => fun t m r => if t = n then !fD f m n && clo p.1 m 10 (preB p f (hist p f n) n m) r else hist p f n t m r
def Tz (p : PR) (f : FL) (t m r : Nat) : Bool := hist p f (t + 1) t m r
section
variable {p : PR} {f : FL} {T T' : Nat → Nat → Nat → Bool}
theorem any_congr {α : Type} {l : List α} {g g' : α → Bool} (h : ∀ x ∈ l, g x = g' x) : l.any g = l.any g' := by
  induction l with
  | nil => rfl
  | cons x l ih => rw [List.any_cons, List.any_cons, h x List.mem_cons_self, ih (fun y hy => h y (List.mem_cons_of_mem _ hy))]
theorem all_congr {α : Type} {l : List α} {g g' : α → Bool} (h : ∀ x ∈ l, g x = g' x) : l.all g = l.all g' := by
  induction l with
  | nil => rfl
  | cons x l ih => rw [List.all_cons, List.all_cons, h x List.mem_cons_self, ih (fun y hy => h y (List.mem_cons_of_mem _ hy))]
theorem hB_congr {s u : Nat} (h : ∀ m r, T u m r = T' u m r) : hB p f T s u = hB p f T' s u := by
  have : T u (p.1 11 (10 + s) - 1) = T' u (p.1 11 (10 + s) - 1) := funext fun r => h _ r
  unfold hB; rw [this]
theorem sntB_congr {s u : Nat} (h : ∀ v, v ≤ u → ∀ m r, T v m r = T' v m r) : sntB p f T s u = sntB p f T' s u := by
  unfold sntB; rw [hB_congr (h u (Nat.le_refl u)), hB_congr (h (u - 1) (Nat.sub_le u 1))]
theorem cmB_congr {s u t : Nat} (h : ∀ v, v ≤ u → ∀ m r, T v m r = T' v m r) : cmB p f T s u t = cmB p f T' s u t := by
  unfold cmB; rw [sntB_congr h]
theorem kf_le {f : FL} {m : Nat} : ∀ t, kf f m t ≤ t := by
  intro t
  induction t with
  | zero => exact Nat.le_refl 0
  | succ t ih => unfold kf; split <;> omega
theorem preB_congr {t m : Nat} (h : ∀ u, u < t → ∀ m r, T u m r = T' u m r) : preB p f T t m = preB p f T' t m := by
  funext r
  have h1 : arrB p f T t m r = arrB p f T' t m r := by
    unfold arrB
    apply any_congr
    intro s _
    congr 1
    apply any_congr
    intro u hu
    exact cmB_congr fun v hv => h v (by have := List.mem_range.mp hu; omega)
  have h2 : kpB f T t m r = kpB f T' t m r := by
    unfold kpB
    by_cases q : kf f m t = 0
    · simp [q]
    · rw [h (kf f m t - 1) (by have := kf_le (f := f) (m := m) t; omega)]
  have h3 : nxB p f T t m r = nxB p f T' t m r := by
    unfold nxB
    by_cases q : 0 < t
    · have : T (t - 1) m = T' (t - 1) m := funext fun r => h (t - 1) (by omega) m r
      rw [this]
    · simp [q]
  unfold preB
  rw [h1, h2, h3]
theorem hist_lt {n t m r : Nat} (h : t < n) : hist p f n t m r = Tz p f t m r := by
  induction n with
  | zero => exact absurd h (Nat.not_lt_zero _)
  | succ n ih =>
    by_cases q : t = n
    · subst q; rfl
    · show (if t = n then _ else hist p f n t m r) = _
      rw [if_neg q]
      exact ih (by omega)
theorem Tz_eq {t m r : Nat} : Tz p f t m r = (!fD f m t && clo p.1 m 10 (preB p f (Tz p f) t m) r) := by
  show (if t = t then _ else _) = _
  rw [if_pos rfl, preB_congr (fun u hu m r => hist_lt hu)]
theorem kpB_succ {t m r : Nat} : kpB f T (t + 1) m r = if fD f m t then kpB f T t m r else T t m r := by
  unfold kpB
  show (decide ((if fD f m t then kf f m t else t + 1) ≠ 0) && T ((if fD f m t then kf f m t else t + 1) - 1) m r) = _
  cases fD f m t <;> simp
theorem kpB_0 {m r : Nat} : kpB f T 0 m r = false := by unfold kpB kf; rfl
theorem clo_stop {B : BK} {m n : Nat} {X : Nat → Bool} (h : pas B m X (B 3 0) = X) : clo B m n X = X := by
  induction n with
  | zero => rfl
  | succ n ih => show clo B m n (pas B m X (B 3 0)) = X; rw [h, ih]
theorem cHf_end {B : BK} {c k : Nat} {b : Bool} {X : Nat → Bool} (h : B 14 c ≤ k) : cHf B c b X k = true := by
  unfold cHf; rw [show B 14 c - k = 0 by omega]; rfl
theorem cHf_step {B : BK} {c k : Nat} {b : Bool} {X : Nat → Bool} (h : k < B 14 c) : cHf B c b X k = ((if B (40 + c) k = 0 then X (B (20 + c) k) else b || !X (B (20 + c) k)) && cHf B c b X (k + 1)) := by
  unfold cHf
  rw [show B 14 c - k = (B 14 c - (k + 1)) + 1 by omega, List.range_succ_eq_map, List.all_cons, List.all_map]
  congr 1
  apply all_congr
  intro i _
  show (if B (40 + c) (k + (i + 1)) = 0 then X (B (20 + c) (k + (i + 1))) else b || !X (B (20 + c) (k + (i + 1)))) = _
  rw [show k + (i + 1) = k + 1 + i by omega]
end
/-- a Book's numbers are in their bounds -/
def WC (B : BK) (c : Nat) : Prop := (B 10 c < B 1 0) ∧ (B 11 c ≤ B 0 0) ∧ (B 14 c ≤ 3) ∧ (∀ i, i < B 14 c → B (20 + c) i < B 1 0) ∧ (∀ i, i < B 14 c → B (40 + c) i ≤ 1) ∧ (1 ≤ B 14 c)
theorem WC.row {B : BK} {c : Nat} (q_ : WC B c) : B 10 c < B 1 0 := q_.1
theorem WC.pl {B : BK} {c : Nat} (q_ : WC B c) : B 11 c ≤ B 0 0 := q_.2.1
theorem WC.n {B : BK} {c : Nat} (q_ : WC B c) : B 14 c ≤ 3 := q_.2.2.1
theorem WC.cr {B : BK} {c : Nat} (q_ : WC B c) : ∀ i, i < B 14 c → B (20 + c) i < B 1 0 := q_.2.2.2.1
theorem WC.cn {B : BK} {c : Nat} (q_ : WC B c) : ∀ i, i < B 14 c → B (40 + c) i ≤ 1 := q_.2.2.2.2.1
theorem WC.p1 {B : BK} {c : Nat} (q_ : WC B c) : 1 ≤ B 14 c := q_.2.2.2.2.2
/-- any, all from k on -/
def anyF (g : Nat → Bool) (k n : Nat) : Bool := (List.range (n - k)).any fun i => g (k + i)
theorem anyF_end {g : Nat → Bool} {k n : Nat} (h : n ≤ k) : anyF g k n = false := by
  unfold anyF; rw [show n - k = 0 by omega]; rfl
theorem anyF_step {g : Nat → Bool} {k n : Nat} (h : k < n) : anyF g k n = (g k || anyF g (k + 1) n) := by
  unfold anyF
  rw [show n - k = (n - (k + 1)) + 1 by omega, List.range_succ_eq_map, List.any_cons, List.any_map]
  congr 1
  apply any_congr
  intro i _
  show g (k + (i + 1)) = _
  rw [show k + (i + 1) = k + 1 + i by omega]
theorem anyF_0 {g : Nat → Bool} {n : Nat} : anyF g 0 n = (List.range n).any g := by
  unfold anyF
  rw [Nat.sub_zero]
  apply any_congr
  intro i _
  rw [Nat.zero_add]
def allF (g : Nat → Bool) (k n : Nat) : Bool := (List.range (n - k)).all fun i => g (k + i)
theorem allF_end {g : Nat → Bool} {k n : Nat} (h : n ≤ k) : allF g k n = true := by
  unfold allF; rw [show n - k = 0 by omega]; rfl
theorem allF_step {g : Nat → Bool} {k n : Nat} (h : k < n) : allF g k n = (g k && allF g (k + 1) n) := by
  unfold allF
  rw [show n - k = (n - (k + 1)) + 1 by omega, List.range_succ_eq_map, List.all_cons, List.all_map]
  congr 1
  apply all_congr
  intro i _
  show g (k + (i + 1)) = _
  rw [show k + (i + 1) = k + 1 + i by omega]
theorem allF_0 {g : Nat → Bool} {n : Nat} : allF g 0 n = (List.range n).all g := by
  unfold allF
  rw [Nat.sub_zero]
  apply all_congr
  intro i _
  rw [Nat.zero_add]
theorem rany_succ {g : Nat → Bool} {n : Nat} : (List.range (n + 1)).any g = ((List.range n).any g || g n) := by
  rw [List.range_succ, List.any_append]; simp
theorem rall_succ {g : Nat → Bool} {n : Nat} : (List.range (n + 1)).all g = ((List.range n).all g && g n) := by
  rw [List.range_succ, List.all_append]; simp
theorem cH_congr {B : BK} {c : Nat} {b : Bool} {X Y : Nat → Bool} (w : WC B c) (h : ∀ r, r < B 1 0 → X r = Y r) : cH B c b X = cH B c b Y := by
  unfold cH cHf
  apply all_congr
  intro i hi
  have hi := List.mem_range.mp hi
  rw [h _ (w.cr (0 + i) (by omega))]
theorem pas_congr {B : BK} {m : Nat} {X Y : Nat → Bool} (w : ∀ i, i < B 3 0 → WC B i) (h : ∀ r, r < B 1 0 → X r = Y r) : ∀ k, k ≤ B 3 0 → ∀ r, r < B 1 0 → pas B m X k r = pas B m Y k r := by
  intro k
  induction k with
  | zero => intro _ r hr; exact h r hr
  | succ k ih =>
    intro hk r hr
    have ih := ih (by omega)
    unfold pas
    rw [cH_congr (w k (by omega)) ih]
    split
    · show (pas B m X k r || _) = (pas B m Y k r || _); rw [ih r hr]
    · exact ih r hr
theorem clo_congr {B : BK} {m : Nat} (w : ∀ i, i < B 3 0 → WC B i) : ∀ n (X Y : Nat → Bool), (∀ r, r < B 1 0 → X r = Y r) → ∀ r, r < B 1 0 → clo B m n X r = clo B m n Y r := by
  intro n
  induction n with
  | zero => intro X Y h; exact h
  | succ n ih => intro X Y h; exact ih _ _ (pas_congr w h _ (Nat.le_refl _))
