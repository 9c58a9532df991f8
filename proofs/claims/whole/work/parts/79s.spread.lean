/-! a bundle's sets, side by side -/
def nxS (l : List Nat) : Nat := match l.getLast? with
  | none => 0
  | some x => x + 1
theorem nxS_app {l : List Nat} {x : Nat} : nxS (l ++ [x]) = x + 1 := by unfold nxS; rw [List.getLast?_append]; rfl
theorem take_s {l : List Nat} {i : Nat} (hi : i < l.length) : l.take (i + 1) = l.take i ++ [l.getD i 0] := by
  rw [List.take_succ, List.getElem?_eq_getElem hi, List.getD_eq_getElem?_getD, List.getElem?_eq_getElem hi]; rfl
theorem vld_app {N x : Nat} {l : List Nat} (hl : l.length ≤ 2) (V : vld N l = true) : vld N (l ++ [x]) = decide (nxS l ≤ x ∧ x < N) := by
  match l, hl, V with
  | [], _, _ => show decide (x < N) = decide (0 ≤ x ∧ x < N); congr 1; simp
  | [y], _, _ => show decide (y < x ∧ x < N) = decide (y + 1 ≤ x ∧ x < N); rfl
  | [y, z], _, V =>
    have V : y < z ∧ z < N := of_decide_eq_true V
    show decide (y < z ∧ z < x ∧ x < N) = decide (z + 1 ≤ x ∧ x < N)
    congr 1
    apply propext
    omega
theorem cnK_app {a l : List Nat} {x k : Nat} : cnK a (l ++ [x]) k = cnK a l k + if a.getD x 0 / 100 = k then 1 else 0 := by
  unfold cnK
  rw [List.filter_append, List.length_append]
  congr 1
  by_cases e : a.getD x 0 / 100 = k
  · rw [if_pos e, List.filter_cons, if_pos (by simpa using e)]; rfl
  · rw [if_neg e, List.filter_cons, if_neg (by simpa using e)]; rfl
theorem mnt_iff {a l : List Nat} {r : NN_} : mnt a r l = true ↔ ∀ k, k < 4 → cnK a l k ≤ r k := by
  unfold mnt
  rw [List.all_eq_true]
  constructor
  · intro h k hk
    exact of_decide_eq_true (h k (List.mem_range.mpr hk))
  · intro h k hk
    exact decide_eq_true (h k (List.mem_range.mp hk))
theorem mnt_app {a l : List Nat} {r : NN_} {x : Nat} (M : mnt a r l = true) (hx : a.getD x 0 / 100 < 4) : mnt a r (l ++ [x]) = decide (cnK a l (a.getD x 0 / 100) < r (a.getD x 0 / 100)) := by
  have M := mnt_iff.mp M
  by_cases e : cnK a l (a.getD x 0 / 100) < r (a.getD x 0 / 100)
  · rw [decide_eq_true e]
    refine mnt_iff.mpr (fun k hk => ?_)
    rw [cnK_app]
    split
    · next c => rw [← c]; omega
    · have := M k hk; omega
  · rw [decide_eq_false e]
    cases q : mnt a r (l ++ [x])
    · rfl
    · have := mnt_iff.mp q _ hx
      rw [cnK_app, if_pos rfl] at this
      omega
theorem mnt_no {a l l' : List Nat} {r : NN_} (M : mnt a r l = false) : mnt a r (l ++ l') = false := by
  cases q : mnt a r (l ++ l')
  · rfl
  · have q := mnt_iff.mp q
    have : mnt a r l = true := mnt_iff.mpr (fun k hk => by
      refine Nat.le_trans ?_ (q k hk)
      unfold cnK
      rw [List.filter_append, List.length_append]
      omega)
    rw [this] at M; exact nomatch M
theorem sD_app {e d i : Nat} (he : e ≤ 2) (hd : d < 128 ^ e) (hi : i < 128) : sD (e + 1) (d * 128 + i) = sD e d ++ [i] := by
  rw [sD_st he, show (d * 128 + i) / 128 = d by omega]
  by_cases e0 : e = 0
  · subst e0
    have : d < 1 := hd
    have : d = 0 := by omega
    subst this
    rw [if_pos rfl, Nat.zero_mul, Nat.zero_add]
  · rw [if_neg e0, show (d * 128 + i) % 128 = i by omega]
theorem PS_app {a : List Nat} {r : NN_} {e d i : Nat} (he : e ≤ 2) (hd : d < 128 ^ e) (hi : i < 128) (V : vld a.length (sD e d) = true) : PS a r (e + 1) (d * 128 + i) = (decide (nxS (sD e d) ≤ i ∧ i < a.length) && mnt a r (sD e d ++ [i])) := by
  unfold PS
  rw [sD_app he hd hi, vld_app (by rw [sD_len (by omega)]; exact he) V]
theorem sL_app {a : List Nat} {e d i : Nat} (he : e ≤ 2) (hd : d < 128 ^ e) (hi : i < 128) : sL a (e + 1) (d * 128 + i) = (sD e d).map (fun i => a.getD i 0) ++ [a.getD i 0] := by
  unfold sL
  rw [sD_app he hd hi, List.map_append]; rfl
def SpA : Nat → Prop := fun x => x = 146 ∨ x = 150 ∨ (156 ≤ x ∧ x ≤ 158)
def SpI (h h' : AH) (a : List Nat) (l : List Nat) : Prop := (Fr SpA h h') ∧ (∀ k, xI h' 146 k = xI h 146 k) ∧ (∀ k, k < 4 → xI h' 150 k = nI (cnK a l k))
theorem SpI.f {h h' : AH} {a : List Nat} {l : List Nat} (q_ : SpI h h' a l) : Fr SpA h h' := q_.1
theorem SpI.i {h h' : AH} {a : List Nat} {l : List Nat} (q_ : SpI h h' a l) : ∀ k, xI h' 146 k = xI h 146 k := q_.2.1
theorem SpI.u {h h' : AH} {a : List Nat} {l : List Nat} (q_ : SpI h h' a l) : ∀ k, k < 4 → xI h' 150 k = nI (cnK a l k) := q_.2.2
theorem PuS.sp {h h' : AH} {a : List Nat} {s d base : Nat} (F : Fr SpA h h') (i : ∀ k, xI h' 146 k = xI h 146 k) (q : PuS h a s d base) : PuS h' a s d base := ⟨by rw [i]; exact q.z, fun j hj => by rw [F.I _ (by unfold SpA; omega)]; exact q.l j hj, by rw [i]; exact q.s, by rw [i]; exact q.b, fun j hj => by rw [F.I _ (by unfold SpA; omega)]; exact q.k j hj⟩
theorem spread_c {h : AH} {wk b s d base : Nat} {p : PR} {r : NN_} {a : List Nat} (C : CaX_ h wk b p r) (N120 : a.length ≤ 120) (ao : ∀ y, y ∈ a → OKf y) (B : BuS h a (r 0 + r 1 + r 2 + r 3) s d base) : ∃ h', X5_spread_f 146 155 h = some ((), h') ∧ Fr SpA h h' ∧ BuS h' a (r 0 + r 1 + r 2 + r 3) s d base ∧ ∀ j, j < 64 → tl (xL h' 146 7) j = PS a r s (d * 128 + base + j) ∧ (PS a r s (d * 128 + base + j) = true → laf h' 155 j = flOf (sL a s (d * 128 + base + j))) := by
  have x := C.x
  have q := B.u
  have s1 := B.s1
  have sT := B.sT
  have bb := B.b
  have hd := B.d
  obtain ⟨e, rfl⟩ : ∃ e, s = e + 1 := ⟨s - 1, by omega⟩
  rw [Nat.add_sub_cancel] at hd
  have V : vld a.length (sD e d) = true := B.v
  have he : e ≤ 2 := by omega
  have qk : mL h 149 0 (sD e d) := q.k
  have sl : (sD e d).length = e := sD_len (by omega)
  have slt : ∀ i, i < e → (sD e d).getD i 0 < a.length := fun i hi => vld_128 (by omega) hi N120 V
  have ak : ∀ i, i < a.length → a.getD i 0 < 400 ∧ a.getD i 0 / 100 < 4 := fun i hi => by have := (ao _ (getD_mem hi)).1; exact ⟨this, by omega⟩
  generalize hst : sD e d = st at *
  have ssub : nI (e + 1) - nI 1 = nI e := by rw [pk_sub (by omega)]; rfl
  have psE : ∀ j, j < 64 → PS a r (e + 1) (d * 128 + base + j) = (decide (nxS st ≤ base + j ∧ base + j < a.length) && mnt a r (st ++ [base + j])) := fun j hj => by
    rw [Nat.add_assoc, PS_app he hd (by omega) (by rw [hst]; exact V), hst]
  have slE : ∀ j, j < 64 → sL a (e + 1) (d * 128 + base + j) = st.map (fun i => a.getD i 0) ++ [a.getD (base + j) 0] := fun j hj => by
    rw [Nat.add_assoc, sL_app he hd (by omega), hst]
  obtain ⟨h1, e1, F1, v1⟩ := wipe_ok C.g.l2
  have g1 := C.g.fr F1
  have F2 : Fr SpA h (pL h1 146 7 (lN 0)) := (F1.mo (fun x q => by unfold SpA; omega)).tr (Fr.l (by unfold SpA; omega))
  have i2 : ∀ k, xI (pL h1 146 7 (lN 0)) 146 k = xI h 146 k := fun k => by show xI h1 146 k = _; rw [F1.I _ (by omega)]
  -- used is wiped
  obtain ⟨h3, ⟨F3, i3, l3, o3, u3⟩, e3⟩ := loopE (F := fun n k h' => X5_spread_B11 n 146 155 (nI k) h') (E := fun h' => X5_spread_B29 146 155 h') 4 (fun k h' => Fr SpA h h' ∧ (∀ k, xI h' 146 k = xI h 146 k) ∧ (∀ j, j < 64 → laf h' 155 j = flOf []) ∧ xL h' 146 7 = lN 0 ∧ ∀ i, i < k → xI h' 150 i = nI 0) (Nat.zero_le _) (by omega) (h := pL h1 146 7 (lN 0)) ⟨F2, i2, fun j _ => by rw [← v1 j]; rfl, by rw [xL_pL, if_pos ⟨rfl, rfl⟩], fun i hi => absurd hi (Nat.not_lt_zero _)⟩
    (by
      rintro n k h' hk ⟨F, i, l, o, u⟩
      have s' := C.g.fr F
      refine ⟨pI h' 150 k (nI 0), ⟨F.tr (Fr.i (by unfold SpA; omega)), fun j => by rw [xI_ne (by omega)]; exact i j, fun j hj => by rw [← l j hj]; rfl, o, fun j hj => ?_⟩, ?_⟩
      · by_cases e : j = k
        · rw [e, xI_self]
        · rw [xI_ne (by omega)]; exact u j (by omega)
      · show X5_spread_B11 (n + 1) 146 155 (nI k) h' = _
        rw [X5_spread_B11]
        rw [if_neg (by rw [nI_lI (by omega) (by omega)]; omega), G_t s'.c146, s'.r146_3, G_t s'.c150, s'.z150, G_gx (by omega) (by omega), LT_e, nI_cl (by omega), nI_add, LT_e])
    (by
      rintro n h' ⟨F, i, l, o, u⟩
      show X5_spread_B11 (n + 1) 146 155 (nI 4) h' = _
      rw [X5_spread_B11, if_pos (by rw [nI_lI (by omega) (by omega)]; omega)])
  -- the stem
  have stem : ∀ j i n (h' : AH), i + j = e → j < n → SpI h h' a (st.take i) → xL h' 146 7 = lN 0 → (∀ j, j < 64 → laf h' 155 j = flOf ((st.take i).map fun i => a.getD i 0)) → mnt a r (st.take i) = true → (∃ h2, X5_spread_B33 n 146 155 (nI (nxS (st.take i))) (nI i) h' = some ((), h2) ∧ Fr SpA h h2 ∧ (∀ k, xI h2 146 k = xI h 146 k) ∧ xL h2 146 7 = lN 0 ∧ mnt a r st = false) ∨ (∃ h2, X5_spread_B33 n 146 155 (nI (nxS (st.take i))) (nI i) h' = X5_spread_B123 146 155 (nI (nxS st)) h2 ∧ SpI h h2 a st ∧ xL h2 146 7 = lN 0 ∧ (∀ j, j < 64 → laf h2 155 j = flOf (st.map fun i => a.getD i 0)) ∧ mnt a r st = true) := by
    intro j
    induction j with
    | zero =>
      intro i n h' hi hn S o l m
      obtain ⟨n, rfl⟩ : ∃ q, n = q + 1 := ⟨n - 1, by omega⟩
      have ti : st.take i = st := List.take_of_length_le (by omega)
      rw [ti] at S l m ⊢
      have s' := C.g.fr S.f
      right
      refine ⟨h', ?_, S, o, l, m⟩
      rw [X5_spread_B33]
      rw [G_t s'.c146, S.i, q.s, ssub, if_pos (by rw [nI_lI (by omega) (by omega)]; omega)]
    | succ j ih =>
      intro i n h' hi hn S o l m
      obtain ⟨n, rfl⟩ : ∃ q, n = q + 1 := ⟨n - 1, by omega⟩
      have s' := C.g.fr S.f
      have sti := slt i (by omega)
      obtain ⟨ak1, ak2⟩ := ak _ sti
      have ts := take_s (l := st) (i := i) (by omega)
      generalize hx : st.getD i 0 = x at *
      have c3 : cnK a (st.take i) (a.getD x 0 / 100) ≤ 3 := Nat.le_trans (mnt_iff.mp m _ ak2) (r_le C.x ak2)
      have rk := r_le C.x ak2
      have v1 : xI h' 149 (nI i).toNatClampNeg = nI x := by
        have := qk i (by omega)
        rw [Nat.zero_add, hx] at this
        rw [nI_cl (by omega), S.f.I _ (by unfold SpA; omega)]; exact this
      have v2 : xI h' 148 (nI x).toNatClampNeg = nI (a.getD x 0) := by
        have := q.l x sti
        rw [Nat.zero_add] at this
        rw [nI_cl (by omega), S.f.I _ (by unfold SpA; omega)]; exact this
      have dv : nI (a.getD x 0) / nI 100 = nI (a.getD x 0 / 100) := pk_div (by omega) (by omega) (by omega)
      have cl : (nI (a.getD x 0 / 100)).toNatClampNeg = a.getD x 0 / 100 := nI_cl (by omega)
      have u1 := S.u _ ak2
      have u1 : xI h' 150 (nI (a.getD x 0 / 100)).toNatClampNeg = nI (cnK a (st.take i) (a.getD x 0 / 100)) := by rw [cl]; exact u1
      obtain ⟨h4, h4f⟩ : ∃ h4, h4 = pI h' 150 (nI (a.getD x 0 / 100)).toNatClampNeg (nI (cnK a (st.take i) (a.getD x 0 / 100) + 1)) := ⟨_, rfl⟩
      have h4e : h4 = pI h' 150 (a.getD x 0 / 100) (nI (cnK a (st.take i) (a.getD x 0 / 100) + 1)) := by rw [h4f, cl]
      have F4 : Fr SpA h h4 := by rw [h4e]; exact S.f.tr (Fr.i (by unfold SpA; omega))
      have g4 := C.g.fr F4
      have i4 : ∀ k, xI h4 146 k = xI h 146 k := fun k => by rw [h4e, xI_ne (by omega)]; exact S.i k
      have o4 : xL h4 146 7 = lN 0 := by rw [h4e]; exact o
      have ck : ∀ k, cnK a (st.take i ++ [x]) k = cnK a (st.take i) k + if a.getD x 0 / 100 = k then 1 else 0 := fun k => cnK_app
      have u4 : ∀ k, k < 4 → xI h4 150 k = nI (cnK a (st.take i ++ [x]) k) := fun k hk => by
        rw [ck, h4e]
        by_cases ek : a.getD x 0 / 100 = k
        · rw [if_pos ek, ← ek, xI_self]
        · rw [if_neg ek, xI_ne (by omega)]; exact S.u k hk
      have rr : xI h4 147 (nI (a.getD x 0 / 100)).toNatClampNeg = nI (r (a.getD x 0 / 100)) := by rw [cl, F4.I _ (by unfold SpA; omega)]; exact C.u _ ak2
      have su : xI h4 150 (nI (a.getD x 0 / 100)).toNatClampNeg = nI (cnK a (st.take i) (a.getD x 0 / 100) + 1) := by rw [cl, h4e, xI_self]
      have hdr : X5_spread_B33 (n + 1) 146 155 (nI (nxS (st.take i))) (nI i) h' = if nI (cnK a (st.take i) (a.getD x 0 / 100) + 1) ≤ nI (r (a.getD x 0 / 100)) then (G (xc h4 155 = 3) <| BN (X3_put_f 155 (nI (a.getD x 0)) (-1) h4) fun _ h18 => G (xc h18 146 = 5) <| G (xc h18 (xR h18 146 2) = 16) <| G (gx (nI i) (xz h18 (xR h18 146 2))) <| LT ((xI h18 (xR h18 146 2) (nI i).toNatClampNeg) + (nI 1)) fun v22 => LT (nI i + nI 1) fun v23 => X5_spread_B33 n 146 155 v22 v23 h18) else some ((), h4) := by
        rw [X5_spread_B33]
        rw [G_t s'.c146, S.i, q.s, ssub, if_neg (by rw [nI_lI (by omega) (by omega)]; omega), if_neg (by rw [nI_lI (by omega) (by omega)]; omega), G_t s'.c146, s'.r146_2, G_t s'.c149, s'.z149, G_gx (by omega) (by omega), s'.r146_1, G_t s'.c148, v1, s'.z148, G_gx (by omega) (by omega), v2, LT_e, s'.r146_3, G_t s'.c150, s'.z150, dv, G_gx (by omega) (by omega), G_gx (by omega) (by omega), u1, nI_add, ← h4f, LT_e, G_t g4.c146, g4.r146_3, G_t g4.c150, g4.z150, G_gx (by omega) (by omega), g4.r146_0, G_t g4.c147, g4.z147, G_gx (by omega) (by omega), rr, su]
      rw [hdr]
      by_cases ov : cnK a (st.take i) (a.getD x 0 / 100) < r (a.getD x 0 / 100)
      · have m' : mnt a r (st.take i ++ [x]) = true := by rw [mnt_app m ak2]; exact decide_eq_true ov
        obtain ⟨h5, e5, F5, v5⟩ := put_ok (y := -1) (d := a.getD x 0) g4.l2 (ao _ (getD_mem sti))
        have g5 := g4.fr F5
        have F45 : Fr SpA h h5 := F4.tr (F5.mo (fun x q => by unfold SpA; omega))
        have v6 : xI h5 149 (nI i).toNatClampNeg = nI x := by
          rw [F5.I _ (by omega), h4e, xI_ne (by omega)]; exact v1
        rw [if_pos (by rw [nI_lI (by omega) (by omega)]; omega), G_t g4.c155, e5, BN_ok, G_t g5.c146, g5.r146_2, G_t g5.c149, g5.z149, G_gx (by omega) (by omega), v6, nI_add, LT_e, nI_add, LT_e]
        have := ih (i + 1) n h5 (by omega) (by omega) ⟨F45, fun k => by rw [F5.I _ (by omega)]; exact i4 k, fun k hk => by rw [ts, F5.I _ (by omega)]; exact u4 k hk⟩ (by rw [F5.L _ (by omega)]; exact o4) (fun j hj => by rw [v5, tl_m1 j hj, if_pos rfl, ts, List.map_append, show laf h4 155 j = laf h' 155 j from by rw [h4e]; rfl, l j hj, ← flOf_add]; rfl) (by rw [ts]; exact m')
        rw [ts, nxS_app] at this
        exact this
      · left
        refine ⟨h4, by rw [if_neg (by rw [nI_lI (by omega) (by omega)]; omega)], F4, i4, o4, ?_⟩
        have m' : mnt a r (st.take i ++ [x]) = false := by rw [mnt_app m ak2]; exact decide_eq_false ov
        rw [← ts] at m'
        have := mnt_no (l' := st.drop (i + 1)) m'
        rw [List.take_append_drop] at this; exact this
  have m0 : mnt a r (st.take 0) = true := mnt_iff.mpr (fun k _ => Nat.zero_le _)
  have run : X5_spread_f 146 155 h = X5_spread_B33 FU 146 155 (nI (nxS (st.take 0))) (nI 0) h3 := by
    have e3 : X5_spread_B11 FU 146 155 (nI 0) (pL h1 146 7 (lN 0)) = X5_spread_B29 146 155 h3 := e3
    unfold X5_spread_f
    rw [G_t C.g.c155, e1, BN_ok, G_t g1.c146, LT_e, e3]; rfl
  rw [run]
  rcases stem e 0 FU h3 (by omega) (FU_gt (by omega)) ⟨F3, i3, fun k hk => u3 k hk⟩ o3 (fun j hj => l3 j hj) m0 with ⟨h4, e4, F4, i4, o4, m4⟩ | ⟨h4, e4, S4, o4, l4, m4⟩
  · refine ⟨h4, e4, F4, ⟨q.sp F4 i4, s1, sT, B.d, B.v, bb⟩, fun j hj => ?_⟩
    have : PS a r (e + 1) (d * 128 + base + j) = false := by rw [psE j hj, mnt_no m4, Bool.and_false]
    rw [this, o4, tl_n0]
    exact ⟨rfl, fun c => nomatch c⟩
  · -- the lanes
    have psM : ∀ j, j < 64 → PS a r (e + 1) (d * 128 + base + j) = (decide (nxS st ≤ base + j ∧ base + j < a.length) && decide (cnK a st (a.getD (base + j) 0 / 100) < r (a.getD (base + j) 0 / 100))) := fun j hj => by
      rw [psE j hj]
      by_cases c : nxS st ≤ base + j ∧ base + j < a.length
      · rw [mnt_app m4 (ak _ c.2).2]
      · rw [decide_eq_false c]; rfl
    have lanes : ∀ k i n (h' : AH), i + k = 128 → k < n → base ≤ i → nxS st ≤ i → SpI h h' a st → (∀ j, j < 64 → tl (xL h' 146 7) j = (decide (base + j < i) && PS a r (e + 1) (d * 128 + base + j)) ∧ laf h' 155 j = if (decide (base + j < i) && PS a r (e + 1) (d * 128 + base + j)) = true then flOf (sL a (e + 1) (d * 128 + base + j)) else flOf (st.map fun i => a.getD i 0)) → ∃ h2, X5_spread_B132 n 146 155 (nI i) h' = some ((), h2) ∧ SpI h h2 a st ∧ ∀ j, j < 64 → tl (xL h2 146 7) j = PS a r (e + 1) (d * 128 + base + j) ∧ (PS a r (e + 1) (d * 128 + base + j) = true → laf h2 155 j = flOf (sL a (e + 1) (d * 128 + base + j))) := by
      intro k
      induction k with
      | zero =>
        intro i n h' hi hn bi ni S I
        obtain ⟨n, rfl⟩ : ∃ q, n = q + 1 := ⟨n - 1, by omega⟩
        have s' := C.g.fr S.f
        refine ⟨h', ?_, S, fun j hj => ?_⟩
        · rw [X5_spread_B132]
          rw [G_t s'.c146, S.i, q.z, if_pos (by rw [nI_lI (by omega) (by omega)]; omega)]
        · have := I j hj
          rw [decide_eq_true (by omega : base + j < i), Bool.true_and] at this
          exact ⟨this.1, fun c => by rw [this.2, if_pos c]⟩
      | succ k ih =>
        intro i n h' hi hn bi ni S I
        obtain ⟨n, rfl⟩ : ∃ q, n = q + 1 := ⟨n - 1, by omega⟩
        have s' := C.g.fr S.f
        have stop : (∀ j, j < 64 → ¬ base + j < i → PS a r (e + 1) (d * 128 + base + j) = false) → ∀ j, j < 64 → tl (xL h' 146 7) j = PS a r (e + 1) (d * 128 + base + j) ∧ (PS a r (e + 1) (d * 128 + base + j) = true → laf h' 155 j = flOf (sL a (e + 1) (d * 128 + base + j))) := fun no j hj => by
          have := I j hj
          by_cases c : base + j < i
          · rw [decide_eq_true c, Bool.true_and] at this
            exact ⟨this.1, fun c => by rw [this.2, if_pos c]⟩
          · rw [decide_eq_false c, Bool.false_and] at this
            rw [no j hj c]
            exact ⟨this.1, fun c => nomatch c⟩
        by_cases hz : a.length ≤ i
        · refine ⟨h', ?_, S, stop (fun j hj c => by rw [psM j hj, decide_eq_false (by omega)]; rfl)⟩
          rw [X5_spread_B132]
          rw [G_t s'.c146, S.i, q.z, if_pos (by rw [nI_lI (by omega) (by omega)]; exact hz)]
        · by_cases h64 : base + 64 ≤ i
          · refine ⟨h', ?_, S, stop (fun j hj c => absurd (by omega) c)⟩
            rw [X5_spread_B132]
            rw [G_t s'.c146, S.i, q.z, if_neg (by rw [nI_lI (by omega) (by omega)]; exact hz), G_t s'.c146, S.i, q.b, nI_add, if_pos (by rw [nI_lI (by omega) (by omega)]; exact h64)]
          · obtain ⟨ak1, ak2⟩ := ak i (by omega)
            have rk := r_le C.x ak2
            have ck : cnK a st (a.getD i 0 / 100) ≤ r (a.getD i 0 / 100) := mnt_iff.mp m4 _ ak2
            have v2 : xI h' 148 (nI i).toNatClampNeg = nI (a.getD i 0) := by
              have := q.l i (by omega)
              rw [Nat.zero_add] at this
              rw [nI_cl (by omega), S.f.I _ (by unfold SpA; omega)]; exact this
            have dv : nI (a.getD i 0) / nI 100 = nI (a.getD i 0 / 100) := pk_div (by omega) (by omega) (by omega)
            have u1 : xI h' 150 (nI (a.getD i 0 / 100)).toNatClampNeg = nI (cnK a st (a.getD i 0 / 100)) := by rw [nI_cl (by omega)]; exact S.u _ ak2
            have rr : xI h' 147 (nI (a.getD i 0 / 100)).toNatClampNeg = nI (r (a.getD i 0 / 100)) := by rw [nI_cl (by omega), S.f.I _ (by unfold SpA; omega)]; exact C.u _ ak2
            have nx : ∀ h2, X5_spread_B214 (X5_spread_B132 n) 146 155 (nI i) h2 = X5_spread_B132 n 146 155 (nI (i + 1)) h2 := fun h2 => by
              unfold X5_spread_B214
              rw [LT_e, nI_add]
            have pi : PS a r (e + 1) (d * 128 + base + (i - base)) = decide (cnK a st (a.getD i 0 / 100) < r (a.getD i 0 / 100)) := by
              rw [psM (i - base) (by omega), show base + (i - base) = i by omega, decide_eq_true (by omega), Bool.true_and]
            have sb : nI i - nI base = nI (i - base) := pk_sub bi
            rw [X5_spread_B132]
            rw [G_t s'.c146, S.i, q.z, if_neg (by rw [nI_lI (by omega) (by omega)]; exact hz), G_t s'.c146, S.i, q.b, nI_add, if_neg (by rw [nI_lI (by omega) (by omega)]; exact h64), G_t s'.c146, s'.r146_1, G_t s'.c148, s'.z148, G_gx (by omega) (by omega), v2, dv, LT_e, s'.r146_3, G_t s'.c150, s'.z150, G_gx (by omega) (by omega), s'.r146_0, G_t s'.c147, s'.z147, G_gx (by omega) (by omega), u1, rr, nx]
            by_cases ov : cnK a st (a.getD i 0 / 100) < r (a.getD i 0 / 100)
            · obtain ⟨h4', h4e⟩ : ∃ h4, h4 = pL h' 146 7 (xL h' 146 7 ||| lN 1 <<< ((nI (i - base)).toInt64 &&& 63)) := ⟨_, rfl⟩
              have F4 : Fr SpA h h4' := by rw [h4e]; exact S.f.tr (Fr.l (by unfold SpA; omega))
              have g4 := C.g.fr F4
              have i4 : ∀ k, xI h4' 146 k = xI h 146 k := fun k => by rw [h4e]; exact S.i k
              obtain ⟨h5, e5, F5, v5⟩ := put_ok (y := lN 1 <<< ((nI (i - base)).toInt64 &&& 63)) (d := a.getD i 0) g4.l2 (ao _ (getD_mem (by omega)))
              have v3 : xI h4' 148 (nI i).toNatClampNeg = nI (a.getD i 0) := by rw [h4e]; exact v2
              rw [if_neg (by rw [nI_lI (by omega) (by omega)]; omega), G_t s'.c146, sb, ← h4e, LT_e, G_t g4.c146, g4.r146_1, G_t g4.c148, g4.z148, G_gx (by omega) (by omega), G_t g4.c155, v3, i4, q.b, sb, e5, BN_ok, nx]
              refine ih (i + 1) n h5 (by omega) (by omega) (by omega) (by omega) ⟨F4.tr (F5.mo (fun x q => by unfold SpA; omega)), fun k => by rw [F5.I _ (by omega)]; exact i4 k, fun k hk => by rw [F5.I _ (by omega), h4e]; exact S.u k hk⟩ (fun j hj => ?_)
              have I1 := I j hj
              have bt1 := tl_bit (i - base) (by omega) j hj
              have lf : laf h4' 155 j = laf h' 155 j := by rw [h4e]; unfold laf; simp only [xL_pL]; rfl
              by_cases ej : j = i - base
              · subst ej
                have lt : base + (i - base) < i + 1 := by omega
                have nlt : ¬ base + (i - base) < i := by omega
                rw [decide_eq_false nlt, Bool.false_and, if_neg (by decide)] at I1
                rw [decide_eq_true lt, Bool.true_and, pi, decide_eq_true ov, if_pos rfl]
                refine ⟨?_, ?_⟩
                · rw [F5.L _ (by omega), h4e, xL_pL, if_pos ⟨rfl, rfl⟩, tl_or, bt1, decide_eq_true rfl, Bool.or_true]
                · rw [v5, bt1, decide_eq_true rfl, if_pos rfl, lf, I1.2, ← flOf_add, slE _ hj, show base + (i - base) = i by omega]
              · have el : decide (base + j < i + 1) = decide (base + j < i) := decide_eq_decide.mpr (by omega)
                rw [el]
                refine ⟨?_, ?_⟩
                · rw [F5.L _ (by omega), h4e, xL_pL, if_pos ⟨rfl, rfl⟩, tl_or, bt1, decide_eq_false ej, Bool.or_false]; exact I1.1
                · rw [v5, bt1, decide_eq_false ej, if_neg (by decide), lf]; exact I1.2
            · rw [if_pos (by rw [nI_lI (by omega) (by omega)]; omega)]
              refine ih (i + 1) n h' (by omega) (by omega) (by omega) (by omega) S (fun j hj => ?_)
              have I1 := I j hj
              by_cases ej : j = i - base
              · subst ej
                have nlt : ¬ base + (i - base) < i := by omega
                rw [decide_eq_false nlt, Bool.false_and] at I1
                rw [pi, decide_eq_false ov, Bool.and_false]
                exact I1
              · have el : decide (base + j < i + 1) = decide (base + j < i) := decide_eq_decide.mpr (by omega)
                rw [el]; exact I1
    have nl : nxS st ≤ 120 := by
      unfold nxS
      split
      · omega
      · next x hx =>
        have : x ∈ st := List.mem_of_getLast? hx
        obtain ⟨i, hi, ei⟩ := List.getElem_of_mem this
        have := slt i (by omega)
        rw [List.getD_eq_getElem?_getD, List.getElem?_eq_getElem hi] at this
        have : st[i] < a.length := this
        omega
    have g4 := C.g.fr S4.f
    obtain ⟨h5, e5, S5, v5⟩ := lanes (128 - max (nxS st) base) (max (nxS st) base) FU h4 (by omega) (FU_gt (by omega)) (by omega) (by omega) S4 (fun j hj => by
      have : (decide (base + j < max (nxS st) base) && PS a r (e + 1) (d * 128 + base + j)) = false := by
        by_cases c : base + j < max (nxS st) base
        · rw [psM j hj, decide_eq_false (by omega : ¬ (nxS st ≤ base + j ∧ base + j < a.length)), Bool.false_and, Bool.and_false]
        · rw [decide_eq_false c]; rfl
      rw [this, o4, tl_n0, if_neg (by decide)]
      exact ⟨rfl, l4 j hj⟩)
    refine ⟨h5, ?_, S5.f, ⟨q.sp S5.f S5.i, s1, sT, B.d, B.v, bb⟩, v5⟩
    rw [e4]
    unfold X5_spread_B123
    rw [G_t g4.c146, S4.i, q.b, LT_e]
    have mx : (if nI (nxS st) < nI base then nI base else nI (nxS st)) = nI (max (nxS st) base) := by
      by_cases c : nxS st < base
      · rw [if_pos (by rw [nI_tI (by omega) (by omega)]; exact c), Nat.max_eq_right (by omega)]
      · rw [if_neg (by rw [nI_tI (by omega) (by omega)]; exact c), Nat.max_eq_left (by omega)]
    rw [mx]
    exact e5
