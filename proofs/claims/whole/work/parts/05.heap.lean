/-! THE TYPED HEAP. A heap is told by: how many cells were made (their addresses 1 .. n-1; 0 is null), how many slots, the kind of each cell (0 .. 15 objects of vwCl's classes, 16 .. 22 arrays: int, long, byte, boolean, Clause, Numbers, Trace; 99 none of these), its length, and what its slots hold: ints, longs, references. -/
abbrev AH : Type := Nat × Nat × (Nat → Nat) × (Nat → Nat) × (Nat → Nat → Int32) × (Nat → Nat → Int64) × (Nat → Nat → Nat)
def xn (h : AH) : Nat := h.1
def xs (h : AH) : Nat := h.2.1
def xc (h : AH) (a : Nat) : Nat := h.2.2.1 a
def xz (h : AH) (a : Nat) : Nat := h.2.2.2.1 a
def xI (h : AH) (a k : Nat) : Int32 := h.2.2.2.2.1 a k
def xL (h : AH) (a k : Nat) : Int64 := h.2.2.2.2.2.1 a k
def xR (h : AH) (a k : Nat) : Nat := h.2.2.2.2.2.2 a k
def pI (h : AH) (a k : Nat) (v : Int32) : AH := (h.1, h.2.1, h.2.2.1, h.2.2.2.1, fun b j => if b = a ∧ j = k then v else xI h b j, h.2.2.2.2.2.1, h.2.2.2.2.2.2)
def pL (h : AH) (a k : Nat) (v : Int64) : AH := (h.1, h.2.1, h.2.2.1, h.2.2.2.1, h.2.2.2.2.1, fun b j => if b = a ∧ j = k then v else xL h b j, h.2.2.2.2.2.2)
def pR (h : AH) (a k : Nat) (v : Nat) : AH := (h.1, h.2.1, h.2.2.1, h.2.2.2.1, h.2.2.2.2.1, h.2.2.2.2.2.1, fun b j => if b = a ∧ j = k then v else xR h b j)
/-- a new cell of kind c with w slots; its address is xn h -/
def pN (h : AH) (c w : Nat) : AH := (h.1 + 1, h.2.1 + w, fun b => if b = h.1 then c else xc h b, fun b => if b = h.1 then w else xz h b, fun b j => if b = h.1 then 0 else xI h b j, fun b j => if b = h.1 then 0 else xL h b j, fun b j => if b = h.1 then 0 else xR h b j)
section
variable {h : AH} {a k b j c w : Nat} {v : Int32} {u : Int64} {r : Nat}
theorem xn_pI : xn (pI h a k v) = xn h := rfl
theorem xs_pI : xs (pI h a k v) = xs h := rfl
theorem xc_pI : xc (pI h a k v) b = xc h b := rfl
theorem xz_pI : xz (pI h a k v) b = xz h b := rfl
theorem xL_pI : xL (pI h a k v) b j = xL h b j := rfl
theorem xR_pI : xR (pI h a k v) b j = xR h b j := rfl
theorem xI_pI : xI (pI h a k v) b j = if b = a ∧ j = k then v else xI h b j := rfl
theorem xn_pL : xn (pL h a k u) = xn h := rfl
theorem xs_pL : xs (pL h a k u) = xs h := rfl
theorem xc_pL : xc (pL h a k u) b = xc h b := rfl
theorem xz_pL : xz (pL h a k u) b = xz h b := rfl
theorem xI_pL : xI (pL h a k u) b j = xI h b j := rfl
theorem xR_pL : xR (pL h a k u) b j = xR h b j := rfl
theorem xL_pL : xL (pL h a k u) b j = if b = a ∧ j = k then u else xL h b j := rfl
theorem xn_pR : xn (pR h a k r) = xn h := rfl
theorem xs_pR : xs (pR h a k r) = xs h := rfl
theorem xc_pR : xc (pR h a k r) b = xc h b := rfl
theorem xz_pR : xz (pR h a k r) b = xz h b := rfl
theorem xI_pR : xI (pR h a k r) b j = xI h b j := rfl
theorem xL_pR : xL (pR h a k r) b j = xL h b j := rfl
theorem xR_pR : xR (pR h a k r) b j = if b = a ∧ j = k then r else xR h b j := rfl
theorem xn_pN : xn (pN h c w) = xn h + 1 := rfl
theorem xs_pN : xs (pN h c w) = xs h + w := rfl
theorem xc_pN : xc (pN h c w) b = if b = xn h then c else xc h b := rfl
theorem xz_pN : xz (pN h c w) b = if b = xn h then w else xz h b := rfl
theorem xI_pN : xI (pN h c w) b j = if b = xn h then 0 else xI h b j := rfl
theorem xL_pN : xL (pN h c w) b j = if b = xn h then 0 else xL h b j := rfl
theorem xR_pN : xR (pN h c w) b j = if b = xn h then 0 else xR h b j := rfl
end
/-- a guard; a value that gets a name; what follows a call -/
def G {α : Type} (c : Prop) [Decidable c] (f : Option α) : Option α := if c then f else none
def LT {σ α : Type} (v : σ) (f : σ → Option α) : Option α := f v
def BN {α β : Type} (m : Option (α × AH)) (k : α → AH → Option (β × AH)) : Option (β × AH) := match m with
  | none => none
  | some q => k q.1 q.2
abbrev bz (v : Int32) : Prop := v = 0 ∨ v = 1
theorem G_some {α : Type} {c : Prop} [Decidable c] {f : Option α} {r : α} (h : G c f = some r) : c ∧ f = some r := by
  unfold G at h
  by_cases hc : c
  · rw [if_pos hc] at h; exact ⟨hc, h⟩
  · rw [if_neg hc] at h; cases h
theorem G_pos {α : Type} {c : Prop} [Decidable c] {f : Option α} (hc : c) : G c f = f := if_pos hc
theorem BN_some {α β : Type} {m : Option (α × AH)} {k : α → AH → Option (β × AH)} {r : β × AH} (h : BN m k = some r) : ∃ a h1, m = some (a, h1) ∧ k a h1 = some r := by
  cases m with
  | none => cases h
  | some q => exact ⟨q.1, q.2, rfl, h⟩
theorem BN_ok {α β : Type} {a : α} {h1 : AH} {k : α → AH → Option (β × AH)} : BN (some (a, h1)) k = k a h1 := rfl
/-- null or an address -/
def ro (z r : Nat) : Option Nat := if r = 0 then none else some (z + r)
def rv (z r : Nat) : Value := va_rf (ro z r)
theorem rv_0 {z : Nat} : rv z 0 = .null := rfl
theorem rv_pos {z r : Nat} (h : r ≠ 0) : rv z r = .ref (z + r) := by simp [rv, ro, h, va_rf]
theorem rv_cat {z r : Nat} : (rv z r).category = 1 := by
  by_cases h : r = 0
  · subst h; rfl
  · rw [rv_pos h]; rfl
/-- the kinds of the fields of the 16 classes: 0 int, 1 long, 2 a reference, 3 boolean, 4 byte -/
def ftab : List (List Nat) := [[0, 0, 0, 0, 0, 0, 0, 2, 2, 2, 2, 2, 2, 2, 0, 0], [2, 2, 0, 0, 0, 0, 0, 0, 3], [2, 2, 2, 2, 2, 1, 1, 2, 2, 2], [2, 2, 2], [2, 0], [2, 2, 2, 2, 0, 0, 0, 1], [2, 2, 2, 0, 0, 0, 0, 0, 0, 0, 2], [2, 2, 2, 2, 2], [2, 2, 2, 2, 2, 0, 0], [2, 2, 2, 2, 2, 2, 2, 2, 2, 2, 0, 0, 0], [2, 0, 0, 0, 0, 0], [2, 2, 2, 2, 2, 2, 2, 2, 2, 2, 2, 2, 2, 3, 0, 0, 0, 0], [0, 0, 0, 0, 0, 0, 0, 0, 2, 2, 2, 2, 2, 2, 2, 2, 2, 2, 2, 2, 2, 2, 0, 0, 2, 2, 2, 2], [2, 2, 2], [2, 2, 2, 2, 2, 0, 0, 0], [0, 0, 0, 0, 2, 2, 2, 2, 0, 0, 0, 0, 0, 1, 0, 0, 0, 0, 0, 2, 2, 2, 2, 0, 0, 0, 2, 2, 2, 2, 2, 2, 2, 0, 2, 2, 0, 2, 2, 2, 0, 0, 0, 0, 2, 2, 2, 0, 2, 2, 2]]
def ft (c k : Nat) : Nat := (ftab.getD c []).getD k 0
def nf (c : Nat) : Nat := (ftab.getD c []).length
def fv (z : Nat) (h : AH) (a t k : Nat) : Value := if t = 1 then .long (xL h a k) else if t = 2 then rv z (xR h a k) else .int (xI h a k)
def fl (z : Nat) (h : AH) (a : Nat) : List Value := (List.range (nf (xc h a))).map (fun k => fv z h a (ft (xc h a) k) k)
/-- the cell at a, as the kit's worlds tell it -/
def ce (z : Nat) (cy : Nat → ClassId) (h : AH) (a : Nat) : va_E :=
  if xc h a < 16 then .inr (xc h a, fl z h a)
  else if xc h a = 17 then .inl (cy 17, xz h a, .inr (.inl (xL h a)))
  else if xc h a ≤ 19 then .inl (cy (xc h a), xz h a, .inl (xI h a))
  else .inl (cy (xc h a), xz h a, .inr (.inr (.inr (.inr (fun j => ro z (xR h a j))))))
def dm (h : AH) : List Nat := (List.range (xn h)).filter (fun a => decide (xc h a < 23))
def pw (z : Nat) (cy : Nat → ClassId) (h : AH) : va_W := (dm h).map (fun a => (z + a, ce z cy h a))
/-- where it lies: z, below which nothing is ours; the classes and slots; the array classes; the String constants and their bytes -/
abbrev WT : Type := Nat × va_G × (Nat → ClassId) × (Nat → Nat) × (Nat → Nat)
def tysA (cy : Nat → ClassId) : List (ClassId × FieldType) := [(cy 16, .int), (cy 17, .long), (cy 18, .byte), (cy 19, .boolean), (cy 20, .object RX1), (cy 21, .object RX4), (cy 22, .object RX8)]
abbrev fz (w : WT) : Nat → Prop := fun q => w.1 < q
def HR (w : WT) (h : AH) (H : Heap) : Prop := w.1 + xn h ≤ H.size ∧ 1 ≤ xn h ∧ xc h 0 = 99 ∧ (∀ a, xn h ≤ a → xc h a = 99) ∧ va_P w.2.1 vwCl (pw w.1 w.2.2.1 h) H
theorem HR.pos {w : WT} {h : AH} {H : Heap} (R : HR w h H) {a : Nat} (ha : xc h a ≠ 99) : a ≠ 0 ∧ a < xn h := by
  refine ⟨fun e => ha (by rw [e]; exact R.2.2.1), ?_⟩
  rcases Nat.lt_or_ge a (xn h) with q | q
  · exact q
  · exact absurd (R.2.2.2.1 a q) ha
theorem pw_get {z : Nat} {cy : Nat → ClassId} {h : AH} {a : Nat} (h1 : a < xn h) (h2 : xc h a < 23) : ∃ k : Nat, (dm h)[k]? = some a ∧ (pw z cy h)[k]? = some (z + a, ce z cy h a) := by
  have hm : a ∈ dm h := List.mem_filter.mpr ⟨List.mem_range.mpr h1, by simpa using h2⟩
  obtain ⟨k, hk⟩ := List.getElem?_of_mem hm
  exact ⟨k, hk, by unfold pw; rw [List.getElem?_map, hk]; rfl⟩
theorem pw_D {z : Nat} {cy : Nat → ClassId} {h : AH} (h0 : xc h 0 = 99) : va_D (fun q => z < q) (pw z cy h) := by
  have nd : (dm h).Nodup := List.Pairwise.filter _ List.nodup_range
  have key : ∀ (k : Nat) (q : Nat × va_E), (pw z cy h)[k]? = some q → ∃ a, (dm h)[k]? = some a ∧ q.1 = z + a := by
    intro k q hq
    unfold pw at hq
    rw [List.getElem?_map] at hq
    cases hk : (dm h)[k]? with
    | none => rw [hk] at hq; cases hq
    | some a => rw [hk] at hq; cases hq; exact ⟨a, rfl, rfl⟩
  refine ⟨fun i j p q hi hj e => ?_, fun k q hk => ?_⟩
  · obtain ⟨a, ha, ea⟩ := key i p hi
    obtain ⟨b, hb, eb⟩ := key j q hj
    have hab : a = b := by omega
    subst hab
    have li := (List.getElem?_eq_some_iff.mp ha).1
    have lj := (List.getElem?_eq_some_iff.mp hb).1
    exact (List.getElem?_inj li nd).mp (ha.trans hb.symm)
  · obtain ⟨a, ha, ea⟩ := key k q hk
    have hm := List.mem_of_getElem? ha
    have h1 := (List.mem_filter.mp hm).2
    have hne : a ≠ 0 := fun e => by subst e; rw [h0] at h1; simp at h1
    show z < q.1
    omega
theorem dm_same {h h2 : AH} (hn : xn h2 = xn h) (hcc : ∀ b, xc h2 b = xc h b) : dm h2 = dm h := by
  unfold dm
  rw [hn]
  congr 1
  funext b
  rw [hcc]
/-- one cell is changed -/
theorem pw_set {z : Nat} {cy : Nat → ClassId} {h h2 : AH} {a k : Nat} {e : va_E} (hd : (dm h)[k]? = some a) (hn : xn h2 = xn h) (hcc : ∀ b, xc h2 b = xc h b) (he : ce z cy h2 a = e) (ho : ∀ b, b ≠ a → ce z cy h2 b = ce z cy h b) : (pw z cy h).set k (z + a, e) = pw z cy h2 := by
  unfold pw
  rw [dm_same hn hcc]
  have nd : (dm h).Nodup := List.Pairwise.filter _ List.nodup_range
  have lk := (List.getElem?_eq_some_iff.mp hd).1
  apply List.ext_getElem?
  intro i
  by_cases hik : k = i
  · subst hik
    rw [List.getElem?_set_self (by rw [List.length_map]; exact lk), List.getElem?_map, hd]
    show _ = some (z + a, ce z cy h2 a)
    rw [he]
  · rw [List.getElem?_set_ne hik, List.getElem?_map, List.getElem?_map]
    cases hi : (dm h)[i]? with
    | none => rfl
    | some b =>
      have hb : b ≠ a := fun e => by
        subst e
        exact hik ((List.getElem?_inj lk nd).mp (hd.trans hi.symm))
      show some (z + b, ce z cy h b) = some (z + b, ce z cy h2 b)
      rw [ho b hb]
/-- a cell is made -/
theorem pw_push {z : Nat} {cy : Nat → ClassId} {h : AH} {c w : Nat} (hc : c < 23) : pw z cy (pN h c w) = pw z cy h ++ [(z + xn h, ce z cy (pN h c w) (xn h))] := by
  have e1 : dm (pN h c w) = dm h ++ [xn h] := by
    unfold dm
    rw [xn_pN, List.range_succ, List.filter_append]
    congr 1
    · apply List.filter_congr
      intro b hb
      have : b ≠ xn h := Nat.ne_of_lt (List.mem_range.mp hb)
      rw [xc_pN, if_neg this]
    · rw [List.filter_cons, if_pos (by rw [xc_pN, if_pos rfl]; simpa using hc)]
      rfl
  unfold pw
  rw [e1, List.map_append]
  congr 1
  apply List.map_congr_left
  intro b hb
  have : b ≠ xn h := Nat.ne_of_lt (List.mem_range.mp (List.mem_filter.mp hb).1)
  have q1 : xc (pN h c w) b = xc h b := by rw [xc_pN, if_neg this]
  have q2 : xz (pN h c w) b = xz h b := by rw [xz_pN, if_neg this]
  have q3 : xI (pN h c w) b = xI h b := by funext j; rw [xI_pN, if_neg this]
  have q4 : xL (pN h c w) b = xL h b := by funext j; rw [xL_pN, if_neg this]
  have q5 : xR (pN h c w) b = xR h b := by funext j; rw [xR_pN, if_neg this]
  unfold ce fl fv
  rw [q1, q2, q3, q4, q5]
theorem pw_skip {z : Nat} {cy : Nat → ClassId} {h : AH} {c w : Nat} (hc : ¬ c < 23) : pw z cy (pN h c w) = pw z cy h := by
  have e1 : dm (pN h c w) = dm h := by
    unfold dm
    rw [xn_pN, List.range_succ, List.filter_append, List.filter_cons, if_neg (by rw [xc_pN, if_pos rfl]; simpa using hc)]
    rw [show (List.filter (fun a => decide (xc (pN h c w) a < 23)) ([] : List Nat)) = [] from rfl, List.append_nil]
    apply List.filter_congr
    intro b hb
    have : b ≠ xn h := Nat.ne_of_lt (List.mem_range.mp hb)
    rw [xc_pN, if_neg this]
  unfold pw
  rw [e1]
  apply List.map_congr_left
  intro b hb
  have : b ≠ xn h := Nat.ne_of_lt (List.mem_range.mp (List.mem_filter.mp hb).1)
  have q1 : xc (pN h c w) b = xc h b := by rw [xc_pN, if_neg this]
  have q2 : xz (pN h c w) b = xz h b := by rw [xz_pN, if_neg this]
  have q3 : xI (pN h c w) b = xI h b := by funext j; rw [xI_pN, if_neg this]
  have q4 : xL (pN h c w) b = xL h b := by funext j; rw [xL_pN, if_neg this]
  have q5 : xR (pN h c w) b = xR h b := by funext j; rw [xR_pN, if_neg this]
  unfold ce fl fv
  rw [q1, q2, q3, q4, q5]
