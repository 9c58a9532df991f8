theorem HR_E {w : WT} {H : Heap} (h : H.size = w.1 + 1) : HR w hE H := ⟨by rw [h]; exact Nat.le_refl _, Nat.le_refl _, rfl, fun _ _ => rfl, fun k q hq => by
  have : pw w.1 w.2.2.1 hE = [] := rfl
  rw [this] at hq
  simp at hq⟩
theorem arr_prim {args : Array Value} {s : State} {ty : FieldType} (h : (Cond.arrayClass ty).before args s = true) : ∃ cA, ArrOfT s cA ty ∧ s.vm.findClass ("[" ++ ty.toString) = some cA := by
  obtain ⟨c, k, comp, h1, h2, h3⟩ := Cond.arrayClass_spec (args := args) (first := s) (o := none) (s := s) (idx := []) (type := ty) h
  exact ⟨c, fun n z => ⟨fun k h => (by cases h), k, h2, comp, h3⟩, h1⟩
theorem arr_obj {args : Array Value} {s : State} {C : String} (h : (Cond.arrayOver (.object C)).before args s = true) : ∃ cA, ArrOfT s cA (.object C) ∧ va_RA s cA (.object C) := by
  obtain ⟨comp, c, k, h1, h2, h3, h4, h5⟩ := Cond.arrayOver_spec (args := args) (first := s) (o := none) (s := s) (idx := []) (n := C) h
  exact ⟨c, fun n z => ⟨fun k h => (by cases h), k, h3, comp, h4⟩, k, comp, h3, h4, h1, h5⟩
theorem nI_bits (v : Int32) : nI v.toBitVec.toNat = v := by
  unfold nI
  apply Int32.toBitVec_inj.mp
  simp
theorem str_0 {args : Array Value} {s : State} {A : Nat → Prop} (hs : ∀ c ∈ flatC (Cond.and given_1 narrow_1), c.before args s = true) (hA : ∀ a : Nat, a < s.heap.size → ¬ A a) : ∃ a v : Nat, (Term.string "FallTrials$Reader" 117).eval args s none [] s = some (.ref a) ∧ va_O "java/lang/String" a A s s.heap ∧ va_OF "java/lang/String" "coder" "B" (.int 0) a A s s.heap ∧ va_OF "java/lang/String" "value" "[B" (.ref v) a A s s.heap ∧ va_T .byte v (strL 0) (fun j => .int (strB 0 j)) A s s.heap := by
  obtain ⟨adK, adV, h1, h2⟩ := vk_Sof (args := args) (s := s) (N := 1) (tm := fun _ => (Term.string "FallTrials$Reader" 117)) (len := [3]) (byt := [[97, 110, 100]]) (A := A)
    (fun i hi => by match i, hi with | 0, _ => decide) (fun i hi => hs _ (by decide +kernel)) (fun i hi => hs _ (by decide +kernel)) (fun i hi => hs _ (by decide +kernel))
    (fun i hi => by match i, hi with | 0, _ => exact hs _ (by decide +kernel))
    (fun i hi j hj => by
      match i, hi with
      | 0, _ =>
        have hj : j < 3 := hj
        match j, hj with
        | 0, _ => exact hs _ (by decide +kernel) | 1, _ => exact hs _ (by decide +kernel) | 2, _ => exact hs _ (by decide +kernel))
    (fun i j hi hj hn => absurd (by omega) hn) hA
  obtain ⟨q1, q2, q3, q4⟩ := h1.1 0 (by decide)
  refine ⟨adK 0, adV 0, h2 0 (by decide), q1, q2, q3, ?_⟩
  obtain ⟨cell, c1, c2, c3, c4, c5, c6, c7⟩ := q4
  refine ⟨cell, c1, c2, c3, c4, c5, fun j hj => ?_, c7⟩
  have hj : j < 3 := hj
  rw [c6 j hj]
  match j, hj with
  | 0, _ => rfl | 1, _ => rfl | 2, _ => rfl
theorem str_1 {args : Array Value} {s : State} {A : Nat → Prop} (hs : ∀ c ∈ flatC (Cond.and given_1 narrow_1), c.before args s = true) (hA : ∀ a : Nat, a < s.heap.size → ¬ A a) : ∃ a v : Nat, (Term.string "FallTrials$Reader" 121).eval args s none [] s = some (.ref a) ∧ va_O "java/lang/String" a A s s.heap ∧ va_OF "java/lang/String" "coder" "B" (.int 0) a A s s.heap ∧ va_OF "java/lang/String" "value" "[B" (.ref v) a A s s.heap ∧ va_T .byte v (strL 1) (fun j => .int (strB 1 j)) A s s.heap := by
  obtain ⟨adK, adV, h1, h2⟩ := vk_Sof (args := args) (s := s) (N := 1) (tm := fun _ => (Term.string "FallTrials$Reader" 121)) (len := [2]) (byt := [[97, 116]]) (A := A)
    (fun i hi => by match i, hi with | 0, _ => decide) (fun i hi => hs _ (by decide +kernel)) (fun i hi => hs _ (by decide +kernel)) (fun i hi => hs _ (by decide +kernel))
    (fun i hi => by match i, hi with | 0, _ => exact hs _ (by decide +kernel))
    (fun i hi j hj => by
      match i, hi with
      | 0, _ =>
        have hj : j < 2 := hj
        match j, hj with
        | 0, _ => exact hs _ (by decide +kernel) | 1, _ => exact hs _ (by decide +kernel))
    (fun i j hi hj hn => absurd (by omega) hn) hA
  obtain ⟨q1, q2, q3, q4⟩ := h1.1 0 (by decide)
  refine ⟨adK 0, adV 0, h2 0 (by decide), q1, q2, q3, ?_⟩
  obtain ⟨cell, c1, c2, c3, c4, c5, c6, c7⟩ := q4
  refine ⟨cell, c1, c2, c3, c4, c5, fun j hj => ?_, c7⟩
  have hj : j < 2 := hj
  rw [c6 j hj]
  match j, hj with
  | 0, _ => rfl | 1, _ => rfl
theorem str_2 {args : Array Value} {s : State} {A : Nat → Prop} (hs : ∀ c ∈ flatC (Cond.and given_1 narrow_1), c.before args s = true) (hA : ∀ a : Nat, a < s.heap.size → ¬ A a) : ∃ a v : Nat, (Term.string "FallTrials$Reader" 80).eval args s none [] s = some (.ref a) ∧ va_O "java/lang/String" a A s s.heap ∧ va_OF "java/lang/String" "coder" "B" (.int 0) a A s s.heap ∧ va_OF "java/lang/String" "value" "[B" (.ref v) a A s s.heap ∧ va_T .byte v (strL 2) (fun j => .int (strB 2 j)) A s s.heap := by
  obtain ⟨adK, adV, h1, h2⟩ := vk_Sof (args := args) (s := s) (N := 1) (tm := fun _ => (Term.string "FallTrials$Reader" 80)) (len := [4]) (byt := [[102, 97, 99, 116]]) (A := A)
    (fun i hi => by match i, hi with | 0, _ => decide) (fun i hi => hs _ (by decide +kernel)) (fun i hi => hs _ (by decide +kernel)) (fun i hi => hs _ (by decide +kernel))
    (fun i hi => by match i, hi with | 0, _ => exact hs _ (by decide +kernel))
    (fun i hi j hj => by
      match i, hi with
      | 0, _ =>
        have hj : j < 4 := hj
        match j, hj with
        | 0, _ => exact hs _ (by decide +kernel) | 1, _ => exact hs _ (by decide +kernel) | 2, _ => exact hs _ (by decide +kernel) | 3, _ => exact hs _ (by decide +kernel))
    (fun i j hi hj hn => absurd (by omega) hn) hA
  obtain ⟨q1, q2, q3, q4⟩ := h1.1 0 (by decide)
  refine ⟨adK 0, adV 0, h2 0 (by decide), q1, q2, q3, ?_⟩
  obtain ⟨cell, c1, c2, c3, c4, c5, c6, c7⟩ := q4
  refine ⟨cell, c1, c2, c3, c4, c5, fun j hj => ?_, c7⟩
  have hj : j < 4 := hj
  rw [c6 j hj]
  match j, hj with
  | 0, _ => rfl | 1, _ => rfl | 2, _ => rfl | 3, _ => rfl
theorem str_3 {args : Array Value} {s : State} {A : Nat → Prop} (hs : ∀ c ∈ flatC (Cond.and given_1 narrow_1), c.before args s = true) (hA : ∀ a : Nat, a < s.heap.size → ¬ A a) : ∃ a v : Nat, (Term.string "FallTrials$Reader" 222).eval args s none [] s = some (.ref a) ∧ va_O "java/lang/String" a A s s.heap ∧ va_OF "java/lang/String" "coder" "B" (.int 0) a A s s.heap ∧ va_OF "java/lang/String" "value" "[B" (.ref v) a A s s.heap ∧ va_T .byte v (strL 3) (fun j => .int (strB 3 j)) A s s.heap := by
  obtain ⟨adK, adV, h1, h2⟩ := vk_Sof (args := args) (s := s) (N := 1) (tm := fun _ => (Term.string "FallTrials$Reader" 222)) (len := [5]) (byt := [[103, 105, 118, 101, 115]]) (A := A)
    (fun i hi => by match i, hi with | 0, _ => decide) (fun i hi => hs _ (by decide +kernel)) (fun i hi => hs _ (by decide +kernel)) (fun i hi => hs _ (by decide +kernel))
    (fun i hi => by match i, hi with | 0, _ => exact hs _ (by decide +kernel))
    (fun i hi j hj => by
      match i, hi with
      | 0, _ =>
        have hj : j < 5 := hj
        match j, hj with
        | 0, _ => exact hs _ (by decide +kernel) | 1, _ => exact hs _ (by decide +kernel) | 2, _ => exact hs _ (by decide +kernel) | 3, _ => exact hs _ (by decide +kernel) | 4, _ => exact hs _ (by decide +kernel))
    (fun i j hi hj hn => absurd (by omega) hn) hA
  obtain ⟨q1, q2, q3, q4⟩ := h1.1 0 (by decide)
  refine ⟨adK 0, adV 0, h2 0 (by decide), q1, q2, q3, ?_⟩
  obtain ⟨cell, c1, c2, c3, c4, c5, c6, c7⟩ := q4
  refine ⟨cell, c1, c2, c3, c4, c5, fun j hj => ?_, c7⟩
  have hj : j < 5 := hj
  rw [c6 j hj]
  match j, hj with
  | 0, _ => rfl | 1, _ => rfl | 2, _ => rfl | 3, _ => rfl | 4, _ => rfl
theorem str_4 {args : Array Value} {s : State} {A : Nat → Prop} (hs : ∀ c ∈ flatC (Cond.and given_1 narrow_1), c.before args s = true) (hA : ∀ a : Nat, a < s.heap.size → ¬ A a) : ∃ a v : Nat, (Term.string "FallTrials$Reader" 122).eval args s none [] s = some (.ref a) ∧ va_O "java/lang/String" a A s s.heap ∧ va_OF "java/lang/String" "coder" "B" (.int 0) a A s s.heap ∧ va_OF "java/lang/String" "value" "[B" (.ref v) a A s s.heap ∧ va_T .byte v (strL 4) (fun j => .int (strB 4 j)) A s s.heap := by
  obtain ⟨adK, adV, h1, h2⟩ := vk_Sof (args := args) (s := s) (N := 1) (tm := fun _ => (Term.string "FallTrials$Reader" 122)) (len := [2]) (byt := [[105, 102]]) (A := A)
    (fun i hi => by match i, hi with | 0, _ => decide) (fun i hi => hs _ (by decide +kernel)) (fun i hi => hs _ (by decide +kernel)) (fun i hi => hs _ (by decide +kernel))
    (fun i hi => by match i, hi with | 0, _ => exact hs _ (by decide +kernel))
    (fun i hi j hj => by
      match i, hi with
      | 0, _ =>
        have hj : j < 2 := hj
        match j, hj with
        | 0, _ => exact hs _ (by decide +kernel) | 1, _ => exact hs _ (by decide +kernel))
    (fun i j hi hj hn => absurd (by omega) hn) hA
  obtain ⟨q1, q2, q3, q4⟩ := h1.1 0 (by decide)
  refine ⟨adK 0, adV 0, h2 0 (by decide), q1, q2, q3, ?_⟩
  obtain ⟨cell, c1, c2, c3, c4, c5, c6, c7⟩ := q4
  refine ⟨cell, c1, c2, c3, c4, c5, fun j hj => ?_, c7⟩
  have hj : j < 2 := hj
  rw [c6 j hj]
  match j, hj with
  | 0, _ => rfl | 1, _ => rfl
theorem str_5 {args : Array Value} {s : State} {A : Nat → Prop} (hs : ∀ c ∈ flatC (Cond.and given_1 narrow_1), c.before args s = true) (hA : ∀ a : Nat, a < s.heap.size → ¬ A a) : ∃ a v : Nat, (Term.string "FallTrials$Reader" 151).eval args s none [] s = some (.ref a) ∧ va_O "java/lang/String" a A s s.heap ∧ va_OF "java/lang/String" "coder" "B" (.int 0) a A s s.heap ∧ va_OF "java/lang/String" "value" "[B" (.ref v) a A s s.heap ∧ va_T .byte v (strL 5) (fun j => .int (strB 5 j)) A s s.heap := by
  obtain ⟨adK, adV, h1, h2⟩ := vk_Sof (args := args) (s := s) (N := 1) (tm := fun _ => (Term.string "FallTrials$Reader" 151)) (len := [4]) (byt := [[107, 101, 112, 116]]) (A := A)
    (fun i hi => by match i, hi with | 0, _ => decide) (fun i hi => hs _ (by decide +kernel)) (fun i hi => hs _ (by decide +kernel)) (fun i hi => hs _ (by decide +kernel))
    (fun i hi => by match i, hi with | 0, _ => exact hs _ (by decide +kernel))
    (fun i hi j hj => by
      match i, hi with
      | 0, _ =>
        have hj : j < 4 := hj
        match j, hj with
        | 0, _ => exact hs _ (by decide +kernel) | 1, _ => exact hs _ (by decide +kernel) | 2, _ => exact hs _ (by decide +kernel) | 3, _ => exact hs _ (by decide +kernel))
    (fun i j hi hj hn => absurd (by omega) hn) hA
  obtain ⟨q1, q2, q3, q4⟩ := h1.1 0 (by decide)
  refine ⟨adK 0, adV 0, h2 0 (by decide), q1, q2, q3, ?_⟩
  obtain ⟨cell, c1, c2, c3, c4, c5, c6, c7⟩ := q4
  refine ⟨cell, c1, c2, c3, c4, c5, fun j hj => ?_, c7⟩
  have hj : j < 4 := hj
  rw [c6 j hj]
  match j, hj with
  | 0, _ => rfl | 1, _ => rfl | 2, _ => rfl | 3, _ => rfl
theorem str_6 {args : Array Value} {s : State} {A : Nat → Prop} (hs : ∀ c ∈ flatC (Cond.and given_1 narrow_1), c.before args s = true) (hA : ∀ a : Nat, a < s.heap.size → ¬ A a) : ∃ a v : Nat, (Term.string "FallTrials$Reader" 70).eval args s none [] s = some (.ref a) ∧ va_O "java/lang/String" a A s s.heap ∧ va_OF "java/lang/String" "coder" "B" (.int 0) a A s s.heap ∧ va_OF "java/lang/String" "value" "[B" (.ref v) a A s s.heap ∧ va_T .byte v (strL 6) (fun j => .int (strB 6 j)) A s s.heap := by
  obtain ⟨adK, adV, h1, h2⟩ := vk_Sof (args := args) (s := s) (N := 1) (tm := fun _ => (Term.string "FallTrials$Reader" 70)) (len := [7]) (byt := [[109, 97, 99, 104, 105, 110, 101]]) (A := A)
    (fun i hi => by match i, hi with | 0, _ => decide) (fun i hi => hs _ (by decide +kernel)) (fun i hi => hs _ (by decide +kernel)) (fun i hi => hs _ (by decide +kernel))
    (fun i hi => by match i, hi with | 0, _ => exact hs _ (by decide +kernel))
    (fun i hi j hj => by
      match i, hi with
      | 0, _ =>
        have hj : j < 7 := hj
        match j, hj with
        | 0, _ => exact hs _ (by decide +kernel) | 1, _ => exact hs _ (by decide +kernel) | 2, _ => exact hs _ (by decide +kernel) | 3, _ => exact hs _ (by decide +kernel) | 4, _ => exact hs _ (by decide +kernel) | 5, _ => exact hs _ (by decide +kernel) | 6, _ => exact hs _ (by decide +kernel))
    (fun i j hi hj hn => absurd (by omega) hn) hA
  obtain ⟨q1, q2, q3, q4⟩ := h1.1 0 (by decide)
  refine ⟨adK 0, adV 0, h2 0 (by decide), q1, q2, q3, ?_⟩
  obtain ⟨cell, c1, c2, c3, c4, c5, c6, c7⟩ := q4
  refine ⟨cell, c1, c2, c3, c4, c5, fun j hj => ?_, c7⟩
  have hj : j < 7 := hj
  rw [c6 j hj]
  match j, hj with
  | 0, _ => rfl | 1, _ => rfl | 2, _ => rfl | 3, _ => rfl | 4, _ => rfl | 5, _ => rfl | 6, _ => rfl
theorem str_7 {args : Array Value} {s : State} {A : Nat → Prop} (hs : ∀ c ∈ flatC (Cond.and given_1 narrow_1), c.before args s = true) (hA : ∀ a : Nat, a < s.heap.size → ¬ A a) : ∃ a v : Nat, (Term.string "FallTrials$Reader" 167).eval args s none [] s = some (.ref a) ∧ va_O "java/lang/String" a A s s.heap ∧ va_OF "java/lang/String" "coder" "B" (.int 0) a A s s.heap ∧ va_OF "java/lang/String" "value" "[B" (.ref v) a A s s.heap ∧ va_T .byte v (strL 7) (fun j => .int (strB 7 j)) A s s.heap := by
  obtain ⟨adK, adV, h1, h2⟩ := vk_Sof (args := args) (s := s) (N := 1) (tm := fun _ => (Term.string "FallTrials$Reader" 167)) (len := [5]) (byt := [[109, 97, 121, 98, 101]]) (A := A)
    (fun i hi => by match i, hi with | 0, _ => decide) (fun i hi => hs _ (by decide +kernel)) (fun i hi => hs _ (by decide +kernel)) (fun i hi => hs _ (by decide +kernel))
    (fun i hi => by match i, hi with | 0, _ => exact hs _ (by decide +kernel))
    (fun i hi j hj => by
      match i, hi with
      | 0, _ =>
        have hj : j < 5 := hj
        match j, hj with
        | 0, _ => exact hs _ (by decide +kernel) | 1, _ => exact hs _ (by decide +kernel) | 2, _ => exact hs _ (by decide +kernel) | 3, _ => exact hs _ (by decide +kernel) | 4, _ => exact hs _ (by decide +kernel))
    (fun i j hi hj hn => absurd (by omega) hn) hA
  obtain ⟨q1, q2, q3, q4⟩ := h1.1 0 (by decide)
  refine ⟨adK 0, adV 0, h2 0 (by decide), q1, q2, q3, ?_⟩
  obtain ⟨cell, c1, c2, c3, c4, c5, c6, c7⟩ := q4
  refine ⟨cell, c1, c2, c3, c4, c5, fun j hj => ?_, c7⟩
  have hj : j < 5 := hj
  rw [c6 j hj]
  match j, hj with
  | 0, _ => rfl | 1, _ => rfl | 2, _ => rfl | 3, _ => rfl | 4, _ => rfl
theorem str_8 {args : Array Value} {s : State} {A : Nat → Prop} (hs : ∀ c ∈ flatC (Cond.and given_1 narrow_1), c.before args s = true) (hA : ∀ a : Nat, a < s.heap.size → ¬ A a) : ∃ a v : Nat, (Term.string "FallTrials$Reader" 189).eval args s none [] s = some (.ref a) ∧ va_O "java/lang/String" a A s s.heap ∧ va_OF "java/lang/String" "coder" "B" (.int 0) a A s s.heap ∧ va_OF "java/lang/String" "value" "[B" (.ref v) a A s s.heap ∧ va_T .byte v (strL 8) (fun j => .int (strB 8 j)) A s s.heap := by
  obtain ⟨adK, adV, h1, h2⟩ := vk_Sof (args := args) (s := s) (N := 1) (tm := fun _ => (Term.string "FallTrials$Reader" 189)) (len := [4]) (byt := [[110, 101, 120, 116]]) (A := A)
    (fun i hi => by match i, hi with | 0, _ => decide) (fun i hi => hs _ (by decide +kernel)) (fun i hi => hs _ (by decide +kernel)) (fun i hi => hs _ (by decide +kernel))
    (fun i hi => by match i, hi with | 0, _ => exact hs _ (by decide +kernel))
    (fun i hi j hj => by
      match i, hi with
      | 0, _ =>
        have hj : j < 4 := hj
        match j, hj with
        | 0, _ => exact hs _ (by decide +kernel) | 1, _ => exact hs _ (by decide +kernel) | 2, _ => exact hs _ (by decide +kernel) | 3, _ => exact hs _ (by decide +kernel))
    (fun i j hi hj hn => absurd (by omega) hn) hA
  obtain ⟨q1, q2, q3, q4⟩ := h1.1 0 (by decide)
  refine ⟨adK 0, adV 0, h2 0 (by decide), q1, q2, q3, ?_⟩
  obtain ⟨cell, c1, c2, c3, c4, c5, c6, c7⟩ := q4
  refine ⟨cell, c1, c2, c3, c4, c5, fun j hj => ?_, c7⟩
  have hj : j < 4 := hj
  rw [c6 j hj]
  match j, hj with
  | 0, _ => rfl | 1, _ => rfl | 2, _ => rfl | 3, _ => rfl
theorem str_9 {args : Array Value} {s : State} {A : Nat → Prop} (hs : ∀ c ∈ flatC (Cond.and given_1 narrow_1), c.before args s = true) (hA : ∀ a : Nat, a < s.heap.size → ¬ A a) : ∃ a v : Nat, (Term.string "FallTrials$Reader" 115).eval args s none [] s = some (.ref a) ∧ va_O "java/lang/String" a A s s.heap ∧ va_OF "java/lang/String" "coder" "B" (.int 0) a A s s.heap ∧ va_OF "java/lang/String" "value" "[B" (.ref v) a A s s.heap ∧ va_T .byte v (strL 9) (fun j => .int (strB 9 j)) A s s.heap := by
  obtain ⟨adK, adV, h1, h2⟩ := vk_Sof (args := args) (s := s) (N := 1) (tm := fun _ => (Term.string "FallTrials$Reader" 115)) (len := [3]) (byt := [[110, 111, 116]]) (A := A)
    (fun i hi => by match i, hi with | 0, _ => decide) (fun i hi => hs _ (by decide +kernel)) (fun i hi => hs _ (by decide +kernel)) (fun i hi => hs _ (by decide +kernel))
    (fun i hi => by match i, hi with | 0, _ => exact hs _ (by decide +kernel))
    (fun i hi j hj => by
      match i, hi with
      | 0, _ =>
        have hj : j < 3 := hj
        match j, hj with
        | 0, _ => exact hs _ (by decide +kernel) | 1, _ => exact hs _ (by decide +kernel) | 2, _ => exact hs _ (by decide +kernel))
    (fun i j hi hj hn => absurd (by omega) hn) hA
  obtain ⟨q1, q2, q3, q4⟩ := h1.1 0 (by decide)
  refine ⟨adK 0, adV 0, h2 0 (by decide), q1, q2, q3, ?_⟩
  obtain ⟨cell, c1, c2, c3, c4, c5, c6, c7⟩ := q4
  refine ⟨cell, c1, c2, c3, c4, c5, fun j hj => ?_, c7⟩
  have hj : j < 3 := hj
  rw [c6 j hj]
  match j, hj with
  | 0, _ => rfl | 1, _ => rfl | 2, _ => rfl
theorem str_10 {args : Array Value} {s : State} {A : Nat → Prop} (hs : ∀ c ∈ flatC (Cond.and given_1 narrow_1), c.before args s = true) (hA : ∀ a : Nat, a < s.heap.size → ¬ A a) : ∃ a v : Nat, (Term.string "FallTrials$Reader" 184).eval args s none [] s = some (.ref a) ∧ va_O "java/lang/String" a A s s.heap ∧ va_OF "java/lang/String" "coder" "B" (.int 0) a A s s.heap ∧ va_OF "java/lang/String" "value" "[B" (.ref v) a A s s.heap ∧ va_T .byte v (strL 10) (fun j => .int (strB 10 j)) A s s.heap := by
  obtain ⟨adK, adV, h1, h2⟩ := vk_Sof (args := args) (s := s) (N := 1) (tm := fun _ => (Term.string "FallTrials$Reader" 184)) (len := [3]) (byt := [[110, 111, 119]]) (A := A)
    (fun i hi => by match i, hi with | 0, _ => decide) (fun i hi => hs _ (by decide +kernel)) (fun i hi => hs _ (by decide +kernel)) (fun i hi => hs _ (by decide +kernel))
    (fun i hi => by match i, hi with | 0, _ => exact hs _ (by decide +kernel))
    (fun i hi j hj => by
      match i, hi with
      | 0, _ =>
        have hj : j < 3 := hj
        match j, hj with
        | 0, _ => exact hs _ (by decide +kernel) | 1, _ => exact hs _ (by decide +kernel) | 2, _ => exact hs _ (by decide +kernel))
    (fun i j hi hj hn => absurd (by omega) hn) hA
  obtain ⟨q1, q2, q3, q4⟩ := h1.1 0 (by decide)
  refine ⟨adK 0, adV 0, h2 0 (by decide), q1, q2, q3, ?_⟩
  obtain ⟨cell, c1, c2, c3, c4, c5, c6, c7⟩ := q4
  refine ⟨cell, c1, c2, c3, c4, c5, fun j hj => ?_, c7⟩
  have hj : j < 3 := hj
  rw [c6 j hj]
  match j, hj with
  | 0, _ => rfl | 1, _ => rfl | 2, _ => rfl
theorem str_11 {args : Array Value} {s : State} {A : Nat → Prop} (hs : ∀ c ∈ flatC (Cond.and given_1 narrow_1), c.before args s = true) (hA : ∀ a : Nat, a < s.heap.size → ¬ A a) : ∃ a v : Nat, (Term.string "FallTrials$Reader" 119).eval args s none [] s = some (.ref a) ∧ va_O "java/lang/String" a A s s.heap ∧ va_OF "java/lang/String" "coder" "B" (.int 0) a A s s.heap ∧ va_OF "java/lang/String" "value" "[B" (.ref v) a A s s.heap ∧ va_T .byte v (strL 11) (fun j => .int (strB 11 j)) A s s.heap := by
  obtain ⟨adK, adV, h1, h2⟩ := vk_Sof (args := args) (s := s) (N := 1) (tm := fun _ => (Term.string "FallTrials$Reader" 119)) (len := [2]) (byt := [[111, 114]]) (A := A)
    (fun i hi => by match i, hi with | 0, _ => decide) (fun i hi => hs _ (by decide +kernel)) (fun i hi => hs _ (by decide +kernel)) (fun i hi => hs _ (by decide +kernel))
    (fun i hi => by match i, hi with | 0, _ => exact hs _ (by decide +kernel))
    (fun i hi j hj => by
      match i, hi with
      | 0, _ =>
        have hj : j < 2 := hj
        match j, hj with
        | 0, _ => exact hs _ (by decide +kernel) | 1, _ => exact hs _ (by decide +kernel))
    (fun i j hi hj hn => absurd (by omega) hn) hA
  obtain ⟨q1, q2, q3, q4⟩ := h1.1 0 (by decide)
  refine ⟨adK 0, adV 0, h2 0 (by decide), q1, q2, q3, ?_⟩
  obtain ⟨cell, c1, c2, c3, c4, c5, c6, c7⟩ := q4
  refine ⟨cell, c1, c2, c3, c4, c5, fun j hj => ?_, c7⟩
  have hj : j < 2 := hj
  rw [c6 j hj]
  match j, hj with
  | 0, _ => rfl | 1, _ => rfl
theorem str_12 {args : Array Value} {s : State} {A : Nat → Prop} (hs : ∀ c ∈ flatC (Cond.and given_1 narrow_1), c.before args s = true) (hA : ∀ a : Nat, a < s.heap.size → ¬ A a) : ∃ a v : Nat, (Term.string "FallTrials$Reader" 60).eval args s none [] s = some (.ref a) ∧ va_O "java/lang/String" a A s s.heap ∧ va_OF "java/lang/String" "coder" "B" (.int 0) a A s s.heap ∧ va_OF "java/lang/String" "value" "[B" (.ref v) a A s s.heap ∧ va_T .byte v (strL 12) (fun j => .int (strB 12 j)) A s s.heap := by
  obtain ⟨adK, adV, h1, h2⟩ := vk_Sof (args := args) (s := s) (N := 1) (tm := fun _ => (Term.string "FallTrials$Reader" 60)) (len := [7]) (byt := [[112, 114, 111, 109, 105, 115, 101]]) (A := A)
    (fun i hi => by match i, hi with | 0, _ => decide) (fun i hi => hs _ (by decide +kernel)) (fun i hi => hs _ (by decide +kernel)) (fun i hi => hs _ (by decide +kernel))
    (fun i hi => by match i, hi with | 0, _ => exact hs _ (by decide +kernel))
    (fun i hi j hj => by
      match i, hi with
      | 0, _ =>
        have hj : j < 7 := hj
        match j, hj with
        | 0, _ => exact hs _ (by decide +kernel) | 1, _ => exact hs _ (by decide +kernel) | 2, _ => exact hs _ (by decide +kernel) | 3, _ => exact hs _ (by decide +kernel) | 4, _ => exact hs _ (by decide +kernel) | 5, _ => exact hs _ (by decide +kernel) | 6, _ => exact hs _ (by decide +kernel))
    (fun i j hi hj hn => absurd (by omega) hn) hA
  obtain ⟨q1, q2, q3, q4⟩ := h1.1 0 (by decide)
  refine ⟨adK 0, adV 0, h2 0 (by decide), q1, q2, q3, ?_⟩
  obtain ⟨cell, c1, c2, c3, c4, c5, c6, c7⟩ := q4
  refine ⟨cell, c1, c2, c3, c4, c5, fun j hj => ?_, c7⟩
  have hj : j < 7 := hj
  rw [c6 j hj]
  match j, hj with
  | 0, _ => rfl | 1, _ => rfl | 2, _ => rfl | 3, _ => rfl | 4, _ => rfl | 5, _ => rfl | 6, _ => rfl
theorem str_13 {args : Array Value} {s : State} {A : Nat → Prop} (hs : ∀ c ∈ flatC (Cond.and given_1 narrow_1), c.before args s = true) (hA : ∀ a : Nat, a < s.heap.size → ¬ A a) : ∃ a v : Nat, (Term.string "FallTrials$Reader" 75).eval args s none [] s = some (.ref a) ∧ va_O "java/lang/String" a A s s.heap ∧ va_OF "java/lang/String" "coder" "B" (.int 0) a A s s.heap ∧ va_OF "java/lang/String" "value" "[B" (.ref v) a A s s.heap ∧ va_T .byte v (strL 13) (fun j => .int (strB 13 j)) A s s.heap := by
  obtain ⟨adK, adV, h1, h2⟩ := vk_Sof (args := args) (s := s) (N := 1) (tm := fun _ => (Term.string "FallTrials$Reader" 75)) (len := [3]) (byt := [[114, 111, 119]]) (A := A)
    (fun i hi => by match i, hi with | 0, _ => decide) (fun i hi => hs _ (by decide +kernel)) (fun i hi => hs _ (by decide +kernel)) (fun i hi => hs _ (by decide +kernel))
    (fun i hi => by match i, hi with | 0, _ => exact hs _ (by decide +kernel))
    (fun i hi j hj => by
      match i, hi with
      | 0, _ =>
        have hj : j < 3 := hj
        match j, hj with
        | 0, _ => exact hs _ (by decide +kernel) | 1, _ => exact hs _ (by decide +kernel) | 2, _ => exact hs _ (by decide +kernel))
    (fun i j hi hj hn => absurd (by omega) hn) hA
  obtain ⟨q1, q2, q3, q4⟩ := h1.1 0 (by decide)
  refine ⟨adK 0, adV 0, h2 0 (by decide), q1, q2, q3, ?_⟩
  obtain ⟨cell, c1, c2, c3, c4, c5, c6, c7⟩ := q4
  refine ⟨cell, c1, c2, c3, c4, c5, fun j hj => ?_, c7⟩
  have hj : j < 3 := hj
  rw [c6 j hj]
  match j, hj with
  | 0, _ => rfl | 1, _ => rfl | 2, _ => rfl
theorem str_14 {args : Array Value} {s : State} {A : Nat → Prop} (hs : ∀ c ∈ flatC (Cond.and given_1 narrow_1), c.before args s = true) (hA : ∀ a : Nat, a < s.heap.size → ¬ A a) : ∃ a v : Nat, (Term.string "FallTrials$Reader" 85).eval args s none [] s = some (.ref a) ∧ va_O "java/lang/String" a A s s.heap ∧ va_OF "java/lang/String" "coder" "B" (.int 0) a A s s.heap ∧ va_OF "java/lang/String" "value" "[B" (.ref v) a A s s.heap ∧ va_T .byte v (strL 14) (fun j => .int (strB 14 j)) A s s.heap := by
  obtain ⟨adK, adV, h1, h2⟩ := vk_Sof (args := args) (s := s) (N := 1) (tm := fun _ => (Term.string "FallTrials$Reader" 85)) (len := [4]) (byt := [[114, 117, 108, 101]]) (A := A)
    (fun i hi => by match i, hi with | 0, _ => decide) (fun i hi => hs _ (by decide +kernel)) (fun i hi => hs _ (by decide +kernel)) (fun i hi => hs _ (by decide +kernel))
    (fun i hi => by match i, hi with | 0, _ => exact hs _ (by decide +kernel))
    (fun i hi j hj => by
      match i, hi with
      | 0, _ =>
        have hj : j < 4 := hj
        match j, hj with
        | 0, _ => exact hs _ (by decide +kernel) | 1, _ => exact hs _ (by decide +kernel) | 2, _ => exact hs _ (by decide +kernel) | 3, _ => exact hs _ (by decide +kernel))
    (fun i j hi hj hn => absurd (by omega) hn) hA
  obtain ⟨q1, q2, q3, q4⟩ := h1.1 0 (by decide)
  refine ⟨adK 0, adV 0, h2 0 (by decide), q1, q2, q3, ?_⟩
  obtain ⟨cell, c1, c2, c3, c4, c5, c6, c7⟩ := q4
  refine ⟨cell, c1, c2, c3, c4, c5, fun j hj => ?_, c7⟩
  have hj : j < 4 := hj
  rw [c6 j hj]
  match j, hj with
  | 0, _ => rfl | 1, _ => rfl | 2, _ => rfl | 3, _ => rfl
theorem str_15 {args : Array Value} {s : State} {A : Nat → Prop} (hs : ∀ c ∈ flatC (Cond.and given_1 narrow_1), c.before args s = true) (hA : ∀ a : Nat, a < s.heap.size → ¬ A a) : ∃ a v : Nat, (Term.string "FallTrials$Reader" 90).eval args s none [] s = some (.ref a) ∧ va_O "java/lang/String" a A s s.heap ∧ va_OF "java/lang/String" "coder" "B" (.int 0) a A s s.heap ∧ va_OF "java/lang/String" "value" "[B" (.ref v) a A s s.heap ∧ va_T .byte v (strL 15) (fun j => .int (strB 15 j)) A s s.heap := by
  obtain ⟨adK, adV, h1, h2⟩ := vk_Sof (args := args) (s := s) (N := 1) (tm := fun _ => (Term.string "FallTrials$Reader" 90)) (len := [4]) (byt := [[115, 101, 110, 100]]) (A := A)
    (fun i hi => by match i, hi with | 0, _ => decide) (fun i hi => hs _ (by decide +kernel)) (fun i hi => hs _ (by decide +kernel)) (fun i hi => hs _ (by decide +kernel))
    (fun i hi => by match i, hi with | 0, _ => exact hs _ (by decide +kernel))
    (fun i hi j hj => by
      match i, hi with
      | 0, _ =>
        have hj : j < 4 := hj
        match j, hj with
        | 0, _ => exact hs _ (by decide +kernel) | 1, _ => exact hs _ (by decide +kernel) | 2, _ => exact hs _ (by decide +kernel) | 3, _ => exact hs _ (by decide +kernel))
    (fun i j hi hj hn => absurd (by omega) hn) hA
  obtain ⟨q1, q2, q3, q4⟩ := h1.1 0 (by decide)
  refine ⟨adK 0, adV 0, h2 0 (by decide), q1, q2, q3, ?_⟩
  obtain ⟨cell, c1, c2, c3, c4, c5, c6, c7⟩ := q4
  refine ⟨cell, c1, c2, c3, c4, c5, fun j hj => ?_, c7⟩
  have hj : j < 4 := hj
  rw [c6 j hj]
  match j, hj with
  | 0, _ => rfl | 1, _ => rfl | 2, _ => rfl | 3, _ => rfl
theorem str_16 {args : Array Value} {s : State} {A : Nat → Prop} (hs : ∀ c ∈ flatC (Cond.and given_1 narrow_1), c.before args s = true) (hA : ∀ a : Nat, a < s.heap.size → ¬ A a) : ∃ a v : Nat, (Term.string "FallTrials$Reader" 203).eval args s none [] s = some (.ref a) ∧ va_O "java/lang/String" a A s s.heap ∧ va_OF "java/lang/String" "coder" "B" (.int 0) a A s s.heap ∧ va_OF "java/lang/String" "value" "[B" (.ref v) a A s s.heap ∧ va_T .byte v (strL 16) (fun j => .int (strB 16 j)) A s s.heap := by
  obtain ⟨adK, adV, h1, h2⟩ := vk_Sof (args := args) (s := s) (N := 1) (tm := fun _ => (Term.string "FallTrials$Reader" 203)) (len := [2]) (byt := [[116, 111]]) (A := A)
    (fun i hi => by match i, hi with | 0, _ => decide) (fun i hi => hs _ (by decide +kernel)) (fun i hi => hs _ (by decide +kernel)) (fun i hi => hs _ (by decide +kernel))
    (fun i hi => by match i, hi with | 0, _ => exact hs _ (by decide +kernel))
    (fun i hi j hj => by
      match i, hi with
      | 0, _ =>
        have hj : j < 2 := hj
        match j, hj with
        | 0, _ => exact hs _ (by decide +kernel) | 1, _ => exact hs _ (by decide +kernel))
    (fun i j hi hj hn => absurd (by omega) hn) hA
  obtain ⟨q1, q2, q3, q4⟩ := h1.1 0 (by decide)
  refine ⟨adK 0, adV 0, h2 0 (by decide), q1, q2, q3, ?_⟩
  obtain ⟨cell, c1, c2, c3, c4, c5, c6, c7⟩ := q4
  refine ⟨cell, c1, c2, c3, c4, c5, fun j hj => ?_, c7⟩
  have hj : j < 2 := hj
  rw [c6 j hj]
  match j, hj with
  | 0, _ => rfl | 1, _ => rfl
theorem law_world {p : Program} {s : State} {m : MethodId} {meth : Method} {c : Code} {b L : Nat} {xs : Nat → Int32} (C0 : lw_At p s m meth c b L xs) : ∃ w : WT, s.heap.size = w.1 + 1 ∧ Kx w s ∧ SK w s s.heap ∧ scb w = b ∧ scL w = L ∧ scx w = xs := by
  obtain ⟨hx, hb, hr, hml, hown, hts, hX, hbl, hlocks, hgv⟩ := id C0
  have hs := flat_of_before _ hgv
  have hA : ∀ a : Nat, a < s.heap.size → ¬ (s.heap.size - 1 < a) := fun a ha => by omega
  obtain ⟨k0, v0, e0, a0, b0, c0, d0⟩ := str_0 (A := fun q => s.heap.size - 1 < q) hs hA
  obtain ⟨k1, v1, e1, a1, b1, c1, d1⟩ := str_1 (A := fun q => s.heap.size - 1 < q) hs hA
  obtain ⟨k2, v2, e2, a2, b2, c2, d2⟩ := str_2 (A := fun q => s.heap.size - 1 < q) hs hA
  obtain ⟨k3, v3, e3, a3, b3, c3, d3⟩ := str_3 (A := fun q => s.heap.size - 1 < q) hs hA
  obtain ⟨k4, v4, e4, a4, b4, c4, d4⟩ := str_4 (A := fun q => s.heap.size - 1 < q) hs hA
  obtain ⟨k5, v5, e5, a5, b5, c5, d5⟩ := str_5 (A := fun q => s.heap.size - 1 < q) hs hA
  obtain ⟨k6, v6, e6, a6, b6, c6, d6⟩ := str_6 (A := fun q => s.heap.size - 1 < q) hs hA
  obtain ⟨k7, v7, e7, a7, b7, c7, d7⟩ := str_7 (A := fun q => s.heap.size - 1 < q) hs hA
  obtain ⟨k8, v8, e8, a8, b8, c8, d8⟩ := str_8 (A := fun q => s.heap.size - 1 < q) hs hA
  obtain ⟨k9, v9, e9, a9, b9, c9, d9⟩ := str_9 (A := fun q => s.heap.size - 1 < q) hs hA
  obtain ⟨k10, v10, e10, a10, b10, c10, d10⟩ := str_10 (A := fun q => s.heap.size - 1 < q) hs hA
  obtain ⟨k11, v11, e11, a11, b11, c11, d11⟩ := str_11 (A := fun q => s.heap.size - 1 < q) hs hA
  obtain ⟨k12, v12, e12, a12, b12, c12, d12⟩ := str_12 (A := fun q => s.heap.size - 1 < q) hs hA
  obtain ⟨k13, v13, e13, a13, b13, c13, d13⟩ := str_13 (A := fun q => s.heap.size - 1 < q) hs hA
  obtain ⟨k14, v14, e14, a14, b14, c14, d14⟩ := str_14 (A := fun q => s.heap.size - 1 < q) hs hA
  obtain ⟨k15, v15, e15, a15, b15, c15, d15⟩ := str_15 (A := fun q => s.heap.size - 1 < q) hs hA
  obtain ⟨k16, v16, e16, a16, b16, c16, d16⟩ := str_16 (A := fun q => s.heap.size - 1 < q) hs hA
  obtain ⟨cc0, iS0, hKn0⟩ := u_known (C := RX0) (T := TX0) (N := 16) (n := 16) hts (fun w h => (List.mem_filter.mp (kt_0 w h)).1) (hts _ (List.mem_filter.mp kw_1_38).1)
  obtain ⟨cc1, iS1, hKn1⟩ := u_known (C := RX1) (T := TX1) (N := 9) (n := 9) hts (fun w h => (List.mem_filter.mp (kt_1 w h)).1) (hts _ (List.mem_filter.mp kw_1_45).1)
  obtain ⟨cc2, iS2, hKn2⟩ := u_known (C := RX2) (T := TX2) (N := 10) (n := 10) hts (fun w h => (List.mem_filter.mp (kt_2 w h)).1) (hts _ (List.mem_filter.mp kw_2_169).1)
  obtain ⟨cc3, iS3, hKn3⟩ := u_known (C := RX3) (T := TX3) (N := 3) (n := 3) hts (fun w h => (List.mem_filter.mp (kt_3 w h)).1) (hts _ (List.mem_filter.mp kw_2_106).1)
  obtain ⟨cc4, iS4, hKn4⟩ := u_known (C := RX4) (T := TX4) (N := 2) (n := 2) hts (fun w h => (List.mem_filter.mp (kt_4 w h)).1) (hts _ (List.mem_filter.mp kw_2_49).1)
  obtain ⟨cc5, iS5, hKn5⟩ := u_known (C := RX5) (T := TX5) (N := 8) (n := 8) hts (fun w h => (List.mem_filter.mp (kt_5 w h)).1) (hts _ (List.mem_filter.mp kw_2_72).1)
  obtain ⟨cc6, iS6, hKn6⟩ := u_known (C := RX6) (T := TX6) (N := 11) (n := 11) hts (fun w h => (List.mem_filter.mp (kt_6 w h)).1) (hts _ (List.mem_filter.mp kw_1_200).1)
  obtain ⟨cc7, iS7, hKn7⟩ := u_known (C := RX7) (T := TX7) (N := 5) (n := 5) hts (fun w h => (List.mem_filter.mp (kt_7 w h)).1) (hts _ (List.mem_filter.mp kw_2_211).1)
  obtain ⟨cc8, iS8, hKn8⟩ := u_known (C := RX8) (T := TX8) (N := 7) (n := 7) hts (fun w h => (List.mem_filter.mp (kt_8 w h)).1) (hts _ (List.mem_filter.mp kw_2_134).1)
  obtain ⟨cc9, iS9, hKn9⟩ := u_known (C := RX9) (T := TX9) (N := 13) (n := 13) hts (fun w h => (List.mem_filter.mp (kt_9 w h)).1) (hts _ (List.mem_filter.mp kw_2_66).1)
  obtain ⟨cc10, iS10, hKn10⟩ := u_known (C := RX10) (T := TX10) (N := 6) (n := 6) hts (fun w h => (List.mem_filter.mp (kt_10 w h)).1) (hts _ (List.mem_filter.mp kw_2_5).1)
  obtain ⟨cc11, iS11, hKn11⟩ := u_known (C := RX11) (T := TX11) (N := 18) (n := 18) hts (fun w h => (List.mem_filter.mp (kt_11 w h)).1) (hts _ (List.mem_filter.mp kw_1_30).1)
  obtain ⟨cc12, iS12, hKn12⟩ := u_known (C := RX12) (T := TX12) (N := 28) (n := 28) hts (fun w h => (List.mem_filter.mp (kt_12 w h)).1) (hts _ (List.mem_filter.mp kw_7_141).1)
  obtain ⟨cc13, iS13, hKn13⟩ := u_known (C := RX13) (T := TX13) (N := 3) (n := 3) hts (fun w h => (List.mem_filter.mp (kt_13 w h)).1) (hts _ (List.mem_filter.mp kw_6_192).1)
  obtain ⟨cc14, iS14, hKn14⟩ := u_known (C := RX14) (T := TX14) (N := 8) (n := 8) hts (fun w h => (List.mem_filter.mp (kt_14 w h)).1) (hts _ (List.mem_filter.mp kw_6_163).1)
  obtain ⟨cc15, iS15, hKn15⟩ := u_known (C := RX15) (T := TX15) (N := 51) (n := 51) hts (fun w h => (List.mem_filter.mp (kt_15 w h)).1) (hts _ (List.mem_filter.mp kw_6_157).1)
  obtain ⟨y16, yA16, yR16⟩ := arr_prim (hts (.arrayClass .int) (List.mem_filter.mp kw_1_101).1)
  obtain ⟨y17, yA17, yR17⟩ := arr_prim (hts (.arrayClass .long) (List.mem_filter.mp kw_2_3).1)
  obtain ⟨y18, yA18, yR18⟩ := arr_prim (hts (.arrayClass .byte) (List.mem_filter.mp kw_2_2).1)
  obtain ⟨y19, yA19, yR19⟩ := arr_prim (hts (.arrayClass .boolean) (List.mem_filter.mp kw_1_102).1)
  obtain ⟨y20, yA20, yR20⟩ := arr_obj (C := "FallTrials$Clause") (hts _ (lt_1 (List.mem_of_getElem? (i := 44) rfl)))
  obtain ⟨y21, yA21, yR21⟩ := arr_obj (C := "FallTrials$Numbers") (hts _ (lt_2 (List.mem_of_getElem? (i := 64) rfl)))
  obtain ⟨y22, yA22, yR22⟩ := arr_obj (C := "FallTrials$Trace") (hts _ (lt_2 (List.mem_of_getElem? (i := 131) rfl)))
  refine ⟨(s.heap.size - 1, (fun k => if k = 0 then cc0 else if k = 1 then cc1 else if k = 2 then cc2 else if k = 3 then cc3 else if k = 4 then cc4 else if k = 5 then cc5 else if k = 6 then cc6 else if k = 7 then cc7 else if k = 8 then cc8 else if k = 9 then cc9 else if k = 10 then cc10 else if k = 11 then cc11 else if k = 12 then cc12 else if k = 13 then cc13 else if k = 14 then cc14 else cc15, fun k => if k = 0 then iS0 else if k = 1 then iS1 else if k = 2 then iS2 else if k = 3 then iS3 else if k = 4 then iS4 else if k = 5 then iS5 else if k = 6 then iS6 else if k = 7 then iS7 else if k = 8 then iS8 else if k = 9 then iS9 else if k = 10 then iS10 else if k = 11 then iS11 else if k = 12 then iS12 else if k = 13 then iS13 else if k = 14 then iS14 else iS15), fun k => if k = 16 then y16 else if k = 17 then y17 else if k = 18 then y18 else if k = 19 then y19 else if k = 20 then y20 else if k = 21 then y21 else y22, fun i => if i = 0 then k0 else if i = 1 then k1 else if i = 2 then k2 else if i = 3 then k3 else if i = 4 then k4 else if i = 5 then k5 else if i = 6 then k6 else if i = 7 then k7 else if i = 8 then k8 else if i = 9 then k9 else if i = 10 then k10 else if i = 11 then k11 else if i = 12 then k12 else if i = 13 then k13 else if i = 14 then k14 else if i = 15 then k15 else if i = 16 then k16 else if i = 1000 then b else L, fun i => if i = 0 then v0 else if i = 1 then v1 else if i = 2 then v2 else if i = 3 then v3 else if i = 4 then v4 else if i = 5 then v5 else if i = 6 then v6 else if i = 7 then v7 else if i = 8 then v8 else if i = 9 then v9 else if i = 10 then v10 else if i = 11 then v11 else if i = 12 then v12 else if i = 13 then v13 else if i = 14 then v14 else if i = 15 then v15 else if i = 16 then v16 else (xs (i - 2000)).toBitVec.toNat), ?_, ⟨⟨?_, ?_⟩, ?_, ?_, ?_⟩, ⟨?_, ?_, ?_, ?_, ?_, ?_⟩, rfl, rfl, ?_⟩
  · show s.heap.size = s.heap.size - 1 + 1
    omega
  · intro k q hq
    match k, hq with
    | 0, hq => cases hq; exact hKn0
    | 1, hq => cases hq; exact hKn1
    | 2, hq => cases hq; exact hKn2
    | 3, hq => cases hq; exact hKn3
    | 4, hq => cases hq; exact hKn4
    | 5, hq => cases hq; exact hKn5
    | 6, hq => cases hq; exact hKn6
    | 7, hq => cases hq; exact hKn7
    | 8, hq => cases hq; exact hKn8
    | 9, hq => cases hq; exact hKn9
    | 10, hq => cases hq; exact hKn10
    | 11, hq => cases hq; exact hKn11
    | 12, hq => cases hq; exact hKn12
    | 13, hq => cases hq; exact hKn13
    | 14, hq => cases hq; exact hKn14
    | 15, hq => cases hq; exact hKn15
    | k + 16, hq => simp at hq
  · intro k q hq
    match k, hq with
    | 0, hq => cases hq; exact ⟨yA16, yR16⟩
    | 1, hq => cases hq; exact ⟨yA17, yR17⟩
    | 2, hq => cases hq; exact ⟨yA18, yR18⟩
    | 3, hq => cases hq; exact ⟨yA19, yR19⟩
    | 4, hq => cases hq; exact ⟨yA20, yR20⟩
    | 5, hq => cases hq; exact ⟨yA21, yR21⟩
    | 6, hq => cases hq; exact ⟨yA22, yR22⟩
    | k + 7, hq => simp [tysA] at hq
  · have hall : ∀ q ∈ nestW, q ∈ lw_tbl := by decide +kernel
    exact fun q hq => va_Nw.of (nestW_on q hq) (hts q (hall q hq))
  · exact List.forall_mem_cons.mpr ⟨vk_R.of (hts (.stringRef "FallTrials$Reader" 60 "promise") (lt_3 (List.mem_of_getElem? (i := 131) rfl))) e12, List.forall_mem_cons.mpr ⟨vk_R.of (hts (.stringRef "FallTrials$Reader" 117 "and") (lt_3 (List.mem_of_getElem? (i := 188) rfl))) e0, List.forall_mem_cons.mpr ⟨vk_R.of (hts (.stringRef "FallTrials$Reader" 70 "machine") (lt_3 (List.mem_of_getElem? (i := 201) rfl))) e6, List.forall_mem_cons.mpr ⟨vk_R.of (hts (.stringRef "FallTrials$Reader" 75 "row") (lt_3 (List.mem_of_getElem? (i := 202) rfl))) e13, List.forall_mem_cons.mpr ⟨vk_R.of (hts (.stringRef "FallTrials$Reader" 80 "fact") (lt_3 (List.mem_of_getElem? (i := 203) rfl))) e2, List.forall_mem_cons.mpr ⟨vk_R.of (hts (.stringRef "FallTrials$Reader" 85 "rule") (lt_3 (List.mem_of_getElem? (i := 204) rfl))) e14, List.forall_mem_cons.mpr ⟨vk_R.of (hts (.stringRef "FallTrials$Reader" 90 "send") (lt_3 (List.mem_of_getElem? (i := 205) rfl))) e15, List.forall_mem_cons.mpr ⟨vk_R.of (hts (.stringRef "FallTrials$Reader" 115 "not") (lt_3 (List.mem_of_getElem? (i := 206) rfl))) e9, List.forall_mem_cons.mpr ⟨vk_R.of (hts (.stringRef "FallTrials$Reader" 119 "or") (lt_3 (List.mem_of_getElem? (i := 207) rfl))) e11, List.forall_mem_cons.mpr ⟨vk_R.of (hts (.stringRef "FallTrials$Reader" 121 "at") (lt_3 (List.mem_of_getElem? (i := 208) rfl))) e1, List.forall_mem_cons.mpr ⟨vk_R.of (hts (.stringRef "FallTrials$Reader" 122 "if") (lt_3 (List.mem_of_getElem? (i := 209) rfl))) e4, List.forall_mem_cons.mpr ⟨vk_R.of (hts (.stringRef "FallTrials$Reader" 222 "gives") (lt_3 (List.mem_of_getElem? (i := 231) rfl))) e3, List.forall_mem_cons.mpr ⟨vk_R.of (hts (.stringRef "FallTrials$Reader" 151 "kept") (lt_4 (List.mem_of_getElem? (i := 8) rfl))) e5, List.forall_mem_cons.mpr ⟨vk_R.of (hts (.stringRef "FallTrials$Reader" 167 "maybe") (lt_4 (List.mem_of_getElem? (i := 17) rfl))) e7, List.forall_mem_cons.mpr ⟨vk_R.of (hts (.stringRef "FallTrials$Reader" 184 "now") (lt_4 (List.mem_of_getElem? (i := 30) rfl))) e10, List.forall_mem_cons.mpr ⟨vk_R.of (hts (.stringRef "FallTrials$Reader" 189 "next") (lt_4 (List.mem_of_getElem? (i := 31) rfl))) e8, List.forall_mem_cons.mpr ⟨vk_R.of (hts (.stringRef "FallTrials$Reader" 203 "to") (lt_4 (List.mem_of_getElem? (i := 44) rfl))) e16, List.forall_mem_cons.mpr ⟨vk_R.of (hts (.stringRef "FallTrialsModel" 172 "promise") (lt_8 (List.mem_of_getElem? (i := 26) rfl))) (va_eqR (hs (Cond.eq (Term.string "FallTrials$Reader" 60) (Term.string "FallTrialsModel" 172)) (by decide +kernel)) e12), List.forall_mem_cons.mpr ⟨vk_R.of (hts (.stringRef "FallTrialsModel" 158 "machine") (lt_8 (List.mem_of_getElem? (i := 36) rfl))) (va_eqR (hs (Cond.eq (Term.string "FallTrials$Reader" 70) (Term.string "FallTrialsModel" 158)) (by decide +kernel)) e6), List.forall_mem_cons.mpr ⟨vk_R.of (hts (.stringRef "FallTrialsModel" 164 "row") (lt_8 (List.mem_of_getElem? (i := 49) rfl))) (va_eqR (hs (Cond.eq (Term.string "FallTrials$Reader" 75) (Term.string "FallTrialsModel" 164)) (by decide +kernel)) e13), List.forall_mem_cons.mpr ⟨vk_R.of (hts (.stringRef "FallTrialsModel" 166 "fact") (lt_8 (List.mem_of_getElem? (i := 50) rfl))) (va_eqR (hs (Cond.eq (Term.string "FallTrials$Reader" 80) (Term.string "FallTrialsModel" 166)) (by decide +kernel)) e2), List.forall_mem_cons.mpr ⟨vk_R.of (hts (.stringRef "FallTrialsModel" 168 "rule") (lt_8 (List.mem_of_getElem? (i := 51) rfl))) (va_eqR (hs (Cond.eq (Term.string "FallTrials$Reader" 85) (Term.string "FallTrialsModel" 168)) (by decide +kernel)) e14), List.forall_mem_cons.mpr ⟨vk_R.of (hts (.stringRef "FallTrialsModel" 170 "send") (lt_8 (List.mem_of_getElem? (i := 52) rfl))) (va_eqR (hs (Cond.eq (Term.string "FallTrials$Reader" 90) (Term.string "FallTrialsModel" 170)) (by decide +kernel)) e15), List.forall_mem_cons.mpr ⟨vk_R.of (hts (.stringRef "FallTrialsModel" 174 "not") (lt_8 (List.mem_of_getElem? (i := 53) rfl))) (va_eqR (hs (Cond.eq (Term.string "FallTrials$Reader" 115) (Term.string "FallTrialsModel" 174)) (by decide +kernel)) e9), List.forall_mem_cons.mpr ⟨vk_R.of (hts (.stringRef "FallTrialsModel" 176 "and") (lt_8 (List.mem_of_getElem? (i := 54) rfl))) (va_eqR (hs (Cond.eq (Term.string "FallTrials$Reader" 117) (Term.string "FallTrialsModel" 176)) (by decide +kernel)) e0), List.forall_mem_cons.mpr ⟨vk_R.of (hts (.stringRef "FallTrialsModel" 178 "or") (lt_8 (List.mem_of_getElem? (i := 55) rfl))) (va_eqR (hs (Cond.eq (Term.string "FallTrials$Reader" 119) (Term.string "FallTrialsModel" 178)) (by decide +kernel)) e11), List.forall_mem_cons.mpr ⟨vk_R.of (hts (.stringRef "FallTrialsModel" 180 "at") (lt_8 (List.mem_of_getElem? (i := 56) rfl))) (va_eqR (hs (Cond.eq (Term.string "FallTrials$Reader" 121) (Term.string "FallTrialsModel" 180)) (by decide +kernel)) e1), List.forall_mem_cons.mpr ⟨vk_R.of (hts (.stringRef "FallTrialsModel" 181 "if") (lt_8 (List.mem_of_getElem? (i := 57) rfl))) (va_eqR (hs (Cond.eq (Term.string "FallTrials$Reader" 122) (Term.string "FallTrialsModel" 181)) (by decide +kernel)) e4), List.forall_mem_cons.mpr ⟨vk_R.of (hts (.stringRef "FallTrialsModel" 238 "kept") (lt_8 (List.mem_of_getElem? (i := 62) rfl))) (va_eqR (hs (Cond.eq (Term.string "FallTrials$Reader" 151) (Term.string "FallTrialsModel" 238)) (by decide +kernel)) e5), List.forall_mem_cons.mpr ⟨vk_R.of (hts (.stringRef "FallTrialsModel" 263 "maybe") (lt_8 (List.mem_of_getElem? (i := 75) rfl))) (va_eqR (hs (Cond.eq (Term.string "FallTrials$Reader" 167) (Term.string "FallTrialsModel" 263)) (by decide +kernel)) e7), List.forall_mem_cons.mpr ⟨vk_R.of (hts (.stringRef "FallTrialsModel" 282 "now") (lt_8 (List.mem_of_getElem? (i := 80) rfl))) (va_eqR (hs (Cond.eq (Term.string "FallTrials$Reader" 184) (Term.string "FallTrialsModel" 282)) (by decide +kernel)) e10), List.forall_mem_cons.mpr ⟨vk_R.of (hts (.stringRef "FallTrialsModel" 284 "next") (lt_8 (List.mem_of_getElem? (i := 81) rfl))) (va_eqR (hs (Cond.eq (Term.string "FallTrials$Reader" 189) (Term.string "FallTrialsModel" 284)) (by decide +kernel)) e8), List.forall_mem_cons.mpr ⟨vk_R.of (hts (.stringRef "FallTrialsModel" 298 "to") (lt_8 (List.mem_of_getElem? (i := 90) rfl))) (va_eqR (hs (Cond.eq (Term.string "FallTrials$Reader" 203) (Term.string "FallTrialsModel" 298)) (by decide +kernel)) e16), List.forall_mem_cons.mpr ⟨vk_R.of (hts (.stringRef "FallTrialsModel" 319 "gives") (lt_8 (List.mem_of_getElem? (i := 99) rfl))) (va_eqR (hs (Cond.eq (Term.string "FallTrials$Reader" 222) (Term.string "FallTrialsModel" 319)) (by decide +kernel)) e3), fun _ h => absurd h List.not_mem_nil⟩⟩⟩⟩⟩⟩⟩⟩⟩⟩⟩⟩⟩⟩⟩⟩⟩⟩⟩⟩⟩⟩⟩⟩⟩⟩⟩⟩⟩⟩⟩⟩⟩⟩
  · have hall : ∀ q ∈ aoW, Cond.arrayOver (.object q) ∈ lw_tbl := by decide +kernel
    exact fun q hq => va_AO.of (hts _ (hall q hq))
  · intro i hi
    match i, hi with
    | 0, _ => exact ⟨a0, b0, c0, d0⟩
    | 1, _ => exact ⟨a1, b1, c1, d1⟩
    | 2, _ => exact ⟨a2, b2, c2, d2⟩
    | 3, _ => exact ⟨a3, b3, c3, d3⟩
    | 4, _ => exact ⟨a4, b4, c4, d4⟩
    | 5, _ => exact ⟨a5, b5, c5, d5⟩
    | 6, _ => exact ⟨a6, b6, c6, d6⟩
    | 7, _ => exact ⟨a7, b7, c7, d7⟩
    | 8, _ => exact ⟨a8, b8, c8, d8⟩
    | 9, _ => exact ⟨a9, b9, c9, d9⟩
    | 10, _ => exact ⟨a10, b10, c10, d10⟩
    | 11, _ => exact ⟨a11, b11, c11, d11⟩
    | 12, _ => exact ⟨a12, b12, c12, d12⟩
    | 13, _ => exact ⟨a13, b13, c13, d13⟩
    | 14, _ => exact ⟨a14, b14, c14, d14⟩
    | 15, _ => exact ⟨a15, b15, c15, d15⟩
    | 16, _ => exact ⟨a16, b16, c16, d16⟩
    | i + 17, hi => exact absurd hi (by simp [strT])
  · exact va_Zof (hts (.laysStatic "java/lang/String" "COMPACT_STRINGS" "Z") (lt_3 (List.mem_of_getElem? (i := 145) rfl))) (hts _ (List.mem_filter.mp kw_1_20).1) (va_eqt (hs (Cond.eq (Term.static "java/lang/String" "COMPACT_STRINGS" "Z") (Term.int 1)) (by decide +kernel))) hA
  · exact va_Zqof (hts (.laysStatic "jdk/internal/util/Preconditions" "SIOOBE_FORMATTER" "Ljava/util/function/BiFunction;") (lt_3 (List.mem_of_getElem? (i := 161) rfl))) (hts _ (List.mem_filter.mp kw_1_22).1) (hs (Cond.isRef (Term.static "jdk/internal/util/Preconditions" "SIOOBE_FORMATTER" "Ljava/util/function/BiFunction;")) (by decide +kernel)) hA
  · exact vx_Zqof (hts (.laysStatic "java/lang/Throwable" "UNASSIGNED_STACK" "[Ljava/lang/StackTraceElement;") (lt_6 (List.mem_of_getElem? (i := 92) rfl))) (hts _ (List.mem_filter.mp kw_1_14).1) (hs (Cond.isRef (Term.static "java/lang/Throwable" "UNASSIGNED_STACK" "[Ljava/lang/StackTraceElement;")) (by decide +kernel)) hA
  · exact vx_Zqof (hts (.laysStatic "java/lang/Throwable" "SUPPRESSED_SENTINEL" "Ljava/util/List;") (lt_6 (List.mem_of_getElem? (i := 94) rfl))) (hts _ (List.mem_filter.mp kw_1_14).1) (hs (Cond.isRef (Term.static "java/lang/Throwable" "SUPPRESSED_SENTINEL" "Ljava/util/List;")) (by decide +kernel)) hA
  · refine ⟨?_, fun h => ?_⟩
    · have ex : (fun j => nI ((fun i => if i = 0 then v0 else if i = 1 then v1 else if i = 2 then v2 else if i = 3 then v3 else if i = 4 then v4 else if i = 5 then v5 else if i = 6 then v6 else if i = 7 then v7 else if i = 8 then v8 else if i = 9 then v9 else if i = 10 then v10 else if i = 11 then v11 else if i = 12 then v12 else if i = 13 then v13 else if i = 14 then v14 else if i = 15 then v15 else if i = 16 then v16 else (xs (i - 2000)).toBitVec.toNat) (2000 + j))) = xs := by
        funext j
        have e1 : (fun i => if i = 0 then v0 else if i = 1 then v1 else if i = 2 then v2 else if i = 3 then v3 else if i = 4 then v4 else if i = 5 then v5 else if i = 6 then v6 else if i = 7 then v7 else if i = 8 then v8 else if i = 9 then v9 else if i = 10 then v10 else if i = 11 then v11 else if i = 12 then v12 else if i = 13 then v13 else if i = 14 then v14 else if i = 15 then v15 else if i = 16 then v16 else (xs (i - 2000)).toBitVec.toNat) (2000 + j) = (xs (2000 + j - 2000)).toBitVec.toNat := by
          have : ∀ k, k < 17 → ¬ 2000 + j = k := fun k hk => by omega
          simp [this]
        rw [e1, nI_bits, Nat.add_sub_cancel_left]
      show va_X b L (fun j => nI ((fun i => if i = 0 then v0 else if i = 1 then v1 else if i = 2 then v2 else if i = 3 then v3 else if i = 4 then v4 else if i = 5 then v5 else if i = 6 then v6 else if i = 7 then v7 else if i = 8 then v8 else if i = 9 then v9 else if i = 10 then v10 else if i = 11 then v11 else if i = 12 then v12 else if i = 13 then v13 else if i = 14 then v14 else if i = 15 then v15 else if i = 16 then v16 else (xs (i - 2000)).toBitVec.toNat) (2000 + j))) s s.heap
      rw [ex]
      exact hX
    · have h2 : s.heap.size - 1 < b := h
      omega
  · funext j
    have e1 : (fun i => if i = 0 then v0 else if i = 1 then v1 else if i = 2 then v2 else if i = 3 then v3 else if i = 4 then v4 else if i = 5 then v5 else if i = 6 then v6 else if i = 7 then v7 else if i = 8 then v8 else if i = 9 then v9 else if i = 10 then v10 else if i = 11 then v11 else if i = 12 then v12 else if i = 13 then v13 else if i = 14 then v14 else if i = 15 then v15 else if i = 16 then v16 else (xs (i - 2000)).toBitVec.toNat) (2000 + j) = (xs (2000 + j - 2000)).toBitVec.toNat := by
      have : ∀ k, k < 17 → ¬ 2000 + j = k := fun k hk => by omega
      simp [this]
    show nI ((fun i => if i = 0 then v0 else if i = 1 then v1 else if i = 2 then v2 else if i = 3 then v3 else if i = 4 then v4 else if i = 5 then v5 else if i = 6 then v6 else if i = 7 then v7 else if i = 8 then v8 else if i = 9 then v9 else if i = 10 then v10 else if i = 11 then v11 else if i = 12 then v12 else if i = 13 then v13 else if i = 14 then v14 else if i = 15 then v15 else if i = 16 then v16 else (xs (i - 2000)).toBitVec.toNat) (2000 + j)) = xs j
    rw [e1, nI_bits, Nat.add_sub_cancel_left]
set_option maxHeartbeats 4000000 in
theorem whole_start {p : Program} {e : Env} {s : State} {m : MethodId} {below : List Frame} {meth : Method} {c : Code} (l : Launch) (htr : l.stackTraces = false) (hnt : c.exceptionTable.toList = []) (hnm : meth.name = "law") {b L : Nat} {xs : Nat → Int32} (hL : L ≤ 3072) (C0 : lw_At p s m meth c b L xs) : W p l e room_1 s m #[Value.ref b] below meth c s.heap [] 0 0 (lw_Z below #[Value.ref b] s) (entryFrame m ([Value.ref b] : List Value).toArray 7) := by
  obtain ⟨w, hsz, hK, hSK, rfl, rfl, rfl⟩ := law_world C0
  obtain ⟨hx, hb, hr, hml, hown, hts, hX, hbl, hlocks, hgv⟩ := id C0
  obtain ⟨h', e1, e2, e3⟩ := law_pure (scx w) (scL w) hL
  have C : Cx (p, l, e, room_1, s, m, #[Value.ref (scb w)], below, meth, c, w, hE, 7) qL_law := ⟨hx, hb, hml, hown, fun q hq => hts q (List.mem_filter.mp hq).1, hlocks, hr, rfl, rfl, rfl, ⟨hsz, Nat.le_refl _, by
    have : catT RL "law" = none := by decide +kernel
    unfold tabT
    rw [this]
    exact hnt, htr⟩, hnm, hK, hSK⟩
  have q := (jL_law (p, l, e, room_1, s, m, #[Value.ref (scb w)], below, meth, c, w, hE, 7) (scx w) (scL w) rfl rfl hE 1 h' e1).2 C e2 e3 (Nat.le_refl _) (Nat.le_refl _) s.heap []
  rw [lg_entry_eq]
  have hl := lv_entry [Value.ref (scb w)] (n := 7) (Nat.le_of_ble_eq_true rfl)
  have q2 := q _ (HR_E hsz) va_S.rf hl
  intro T hT X
  obtain ⟨t, a1, b1⟩ := q2 T hT X
  exact ⟨t, a1, b1 ⟨rfl, rfl, rfl, rfl⟩⟩

set_option maxHeartbeats 4000000 in
theorem lw_walk (l : Launch) (htr : l.stackTraces = false) (b : Addr) (xs : List Int32) : MetFree l x (headSpec (Jvm.Cond.code x code maxLocals ret :: tables_1) room_1) (lw_P b xs) (fun _ _ _ _ _ => True) lw_Q := by
  refine MetFree.of_bodyS (code := code) (maxLocals := maxLocals) (ret := ret) (by decide) ?_ ?_
  · intro args s m h hn
    obtain ⟨meth, c, h1, h2, h3, h4, h5, h6, -, -⟩ := Cond.code_spec hn (atoms_spec (ws := Jvm.Cond.code x code maxLocals ret :: tables_1) h _ List.mem_cons_self)
    exact ⟨meth, c, h1, h2, h3, h4, h5, h6⟩
  · intro p e s m args below meth c s₁ B hml0 hP _
    obtain ⟨rfl, hx, hbd, hgv⟩ := hP
    obtain ⟨scr, harrAt, hlist, hof, hsmall⟩ := hx
    obtain ⟨hcb, hkn, -, -⟩ := State.arrayAt?_spec harrAt
    have hown : s.vm.findClass R_law = some m.cls := findClass_of_methodNamed B.named
    have hts0 : ∀ c ∈ (Jvm.Cond.code x code maxLocals ret :: tables_1), c.before #[Value.ref b] s = true := atoms_spec (ws := Jvm.Cond.code x code maxLocals ret :: tables_1) B.pre
    have hts : ∀ w ∈ lw_tbl, w.before #[Value.ref b] s = true := k2_hts_sels lw_privs (fun w hw => hts0 w (List.mem_cons_of_mem _ hw)) lw_privs_ok
    have hml : c.maxLocals = 7 := B.maxLocals_eq (hts0 _ List.mem_cons_self)
    have X₀ : Stand p l e room_1 s m #[Value.ref b] below meth c s₁ [] 0 0 := Stand.of_body B
    have hh0 : s₁.heap = s.heap := by rw [B.state]; rfl
    have hsz : scr.slots.size = xs.length := by rw [← Array.length_toList, hlist, List.length_map]
    have hval : ∀ j : Nat, j < xs.length → scr.slots[j]? = some (.int (xs.getD j 0)) := fun j hj => by
      rw [← Array.getElem?_toList, hlist]
      simp [hj]
    have hbl : b < s.heap.size := (Array.getElem?_eq_some_iff.mp hcb).1
    have hX : va_X b xs.length (fun j => xs.getD j 0) s s.heap := ⟨scr, hcb, hof, hkn, hsz, hval⟩
    have K : W p l e room_1 s m #[Value.ref b] below meth c s₁.heap [] 0 0 (lw_Z below #[Value.ref b] s) (entryFrame m ([Value.ref b] : List Value).toArray 7) := by
      rw [hh0]
      exact whole_start l htr (by have := B.noHandlers (hts0 _ List.mem_cons_self); rw [Array.isEmpty_iff] at this; rw [this]) (name_of_methodNamed B.named B.method).1 hbd ⟨B.exec, B.bytes, B.returns, hml, hown, hts, hX, hbl, B.notSynchronized, hgv⟩
    obtain ⟨t, a1, o, b1, b2, b3⟩ := K s₁ rfl X₀
    exact ⟨t, o, a1, b1, b2, b3⟩
theorem lw_pre_spec {args : Array Value} {s : State} (h : (Jvm.Cond.and given_1 narrow_1).before args s = true) (hr : rest_1_c.before args s = true) : ∃ (b : Addr) (xs : List Int32), lw_P b xs args s := by
  have hs := flat_of_before _ h
  have hq := flat_of_before _ hr
  have hc : (Cond.count 1).before args s = true := hs _ (by decide +kernel)
  have harr : (Cond.arrayOf (.arg 0) .int).before args s = true := hs _ (by decide +kernel)
  have hle : (Cond.le (.length (.arg 0)) (.int 3072)).before args s = true := hs _ (by decide +kernel)
  have hlen : (Cond.isInt (.length (.arg 0))).before args s = true := hq _ (by decide +kernel)
  have hall : (Cond.all (.arg 0) (.isInt (.elem (.arg 0) (.index 0)))).before args s = true := hq _ (by decide +kernel)
  obtain ⟨b, xs, hb, hx⟩ := State.ints_of_pre rfl harr hlen hall
  have hsm : xs.length < 2 ^ 31 := hx.choose_spec.2.2.2
  have hev : (Term.length (.arg 0)).eval args s none [] s = some (.int xs.length.toInt32) := hx.length_eval hb
  have hv := Cond.le_ints hev (show (Term.int 3072).eval args s none [] s = some (.int 3072) from rfl)
  have hd : xs.length.toInt32 ≤ 3072 := by
    simpa [Cond.before, Cond.holds, hv] using hle
  have hN : xs.length ≤ 3072 := (Int32.ofNat_le_ofNat hsm (by decide)).mp (show Int32.ofNat xs.length ≤ Int32.ofNat 3072 from hd)
  exact ⟨b, xs, Cond.one_arg hc (show args[0]? = some (.ref b) from hb), hx, hN, h⟩
theorem lw_comes (l : Launch) (htr : l.stackTraces = false) : Comes l x (Jvm.Cond.code x code maxLocals ret :: tables_1) room_1 (fun tb e args s => Calls_1 tb e args s ∧ rest_1 tb e args s ∧ Pre_1 tb e args s)
    (fun _ _ args s o t => lw_Q args s o t) := by
  intro p e ha hc hk s m args below hf hfit hheap happ hpre
  obtain ⟨b, xs, hP⟩ := lw_pre_spec hpre.2.2 hpre.2.1
  obtain ⟨k, o, h1, h2, h3, hQ⟩ := lw_walk l htr b xs p e ha hc hk s m args below hf ((Spec.applies_iff_loose hf).mp happ).1 hP trivial
  exact ⟨k, o, h1, h2, h3, hQ⟩
theorem lw_frame {s t : State} {o : Outcome} {args : Array Value} (h : Framed s o t [] 601024 7293034) :
    Framed s o t (fieldLocs frame_1_writes args s ++ arrayLocs frame_1_arrays args s ++ staticLocs frame_1_statics s) 601024 7293034 := h
theorem lw_limb (L : Cond) (hL : ∀ (args : Array Value) (s t : State), L.after args s (.returned (some (.int 1))) t = true) :
    ArmFor flags0 classFile x code maxLocals ret World_1 tables_1 room_1 Calls_1 rest_1 Pre_1
      (fun tb e a s o t => postC L tb e a s o t ∧ Framed s o t (fieldLocs frame_1_writes a s ++ arrayLocs frame_1_arrays a s ++ staticLocs frame_1_statics s) 601024 7293034) := by
  intro l hfl _ _ p e ha hc hk s m args below hf hfit hheap happ hpre
  obtain ⟨k, o, h1, h2, h3, rfl, hF⟩ := lw_comes l (by unfold Launch.stackTraces; rw [hfl]; decide +kernel) p e ha hc hk s m args below hf hfit hheap happ hpre
  exact ⟨k, _, h1, h2, h3, hL args s _, lw_frame hF⟩
theorem i_vc : Claimed_1_1 ∧ Claimed_1_2 := ⟨lw_limb limb_1_1 (fun args s t => by simp [limb_1_1, Cond.after, Cond.holds, Cond.value]), lw_limb limb_1_2 (fun args s t => Cond.after_iff.mpr (by
  first | (rw [show limb_1_2 = Cond.eq .result (.int 1) from rfl, Cond.eq_ints (x := 1) (y := 1) rfl rfl]; simp; done) | (simp [limb_1_2, Cond.value, Term.eval]; done)))⟩
