theorem bz_nar {v : Int32} (g : bz v) : narrow .boolean (.int v) = .int v := by rcases g with rfl | rfl <;> rfl
theorem bz_fit {v : Int32} (g : bz v) : fits .boolean (.int v) = true := by rcases g with rfl | rfl <;> rfl
theorem sw_ne {a c0 : Int32} {k : Int} (hk : c0.toInt = k) (h : ¬ a = c0) : a.toInt ≠ k := by rw [← hk]; exact ne_toInt h
/-- rounds enough for every loop -/
def FU : Nat := 4000000
section
variable {x : CT} {α : Type} {K : CT → α → AH → State → Prop} {cc : ByteArray} {own nm : String} {ret : Option FieldType} {F L nl : Nat} {pc : Nat} {lv : List (Nat × Value)} {st : List Value} {h : AH} {f : Option (α × AH)}
theorem J_ldcS {i index : Nat} {tx : String} (hw : (own, index, tx, i) ∈ strW) (hd : decode cc pc = .ok (.ldc index, 2)) (k : J x (cc, own, nm, ret, F, L, nl) K (pc + 2) lv (sv (wx x) i :: st) h f) : J x (cc, own, nm, ret, F, L, nl) K pc lv st h f := by
  obtain ⟨p, l, e, R, s, m, args, below, meth, c, w, h0, nL⟩ := x
  intro r h' ef
  obtain ⟨q1, q2⟩ := k r h' ef
  refine ⟨q1, fun C c1 c2 c3 c4 H locs ls hH hS hl => ?_⟩
  obtain ⟨hx, hb, hml, hown, hts, hlk2, hr, hF, hL, rfl, hsz, hnm, hK, hSK⟩ := id C
  exact va_ldcS hx hb hown (hK.2.2.1 _ hw) hd (q2 C c1 c2 c3 c4 H locs ls hH hS hl)
end
theorem cat_I {v : Int32} : (Value.int v).category = 1 := rfl
theorem cat_L {v : Int64} : (Value.long v).category = 2 := rfl
theorem cat_S {w : WT} {i : Nat} : (sv w i).category = 1 := rfl
section
variable {x : CT} {α : Type} {K : CT → α → AH → State → Prop} {cc : ByteArray} {own nm : String} {ret : Option FieldType} {F L nl : Nat} {pc : Nat} {lv : List (Nat × Value)} {st : List Value} {h : AH} {f : Option (α × AH)}
theorem J_mmax {index : Nat} {a b : Int32} (hlk : Cond.methodLink own index Lib.Math.max.name ∈ WG) (hst : Cond.static Lib.Math.max.name ∈ WG) (hin : Cond.initialized "java/lang/Math" ∈ WG) (hcd : Cond.code Lib.Math.max.name Lib.Math.max.code 2 (some .int) ∈ WG) (hR : 1 ≤ F ∧ (st.map fun v => v.category).sum + 13 ≤ L) (hd : decode cc pc = .ok (.invokestatic index, 3)) (k : J x (cc, own, nm, ret, F, L, nl) K (pc + 3) lv (.int (if a < b then b else a) :: st) h f) : J x (cc, own, nm, ret, F, L, nl) K pc lv (.int b :: .int a :: st) h f := by
  obtain ⟨p, l, e, R, s, m, args, below, meth, c, w, h0, nL⟩ := x
  intro r h' ef
  obtain ⟨q1, q2⟩ := k r h' ef
  refine ⟨q1, fun C c1 c2 c3 c4 H locs ls hH hS hl => ?_⟩
  obtain ⟨hx, hb, hml, hown, hts, hlk2, hr, hF, hL, rfl, hsz, hnm, hK, hSK⟩ := id C
  exact va_mmax hx hb (by rw [hml]; exact hl.1.symm) hown (hts _ hlk) (hts _ hst) (hts _ hin) (hts _ hcd) (by rw [hF]; exact hR.1) (by rw [hL]; exact hR.2) (by omega) (by omega) hd (q2 C c1 c2 c3 c4 H locs ls hH hS hl)
theorem J_mmin {index : Nat} {a b : Int32} (hlk : Cond.methodLink own index Lib.Math.min.name ∈ WG) (hst : Cond.static Lib.Math.min.name ∈ WG) (hin : Cond.initialized "java/lang/Math" ∈ WG) (hcd : Cond.code Lib.Math.min.name Lib.Math.min.code 2 (some .int) ∈ WG) (hR : 1 ≤ F ∧ (st.map fun v => v.category).sum + 13 ≤ L) (hd : decode cc pc = .ok (.invokestatic index, 3)) (k : J x (cc, own, nm, ret, F, L, nl) K (pc + 3) lv (.int (if b < a then b else a) :: st) h f) : J x (cc, own, nm, ret, F, L, nl) K pc lv (.int b :: .int a :: st) h f := by
  obtain ⟨p, l, e, R, s, m, args, below, meth, c, w, h0, nL⟩ := x
  intro r h' ef
  obtain ⟨q1, q2⟩ := k r h' ef
  refine ⟨q1, fun C c1 c2 c3 c4 H locs ls hH hS hl => ?_⟩
  obtain ⟨hx, hb, hml, hown, hts, hlk2, hr, hF, hL, rfl, hsz, hnm, hK, hSK⟩ := id C
  exact va_mmin hx hb (by rw [hml]; exact hl.1.symm) hown (hts _ hlk) (hts _ hst) (hts _ hin) (hts _ hcd) (by rw [hF]; exact hR.1) (by rw [hL]; exact hR.2) (by omega) (by omega) hd (q2 C c1 c2 c3 c4 H locs ls hH hS hl)
end
section
variable {x : CT} {α : Type} {K : CT → α → AH → State → Prop} {cc : ByteArray} {own nm : String} {ret : Option FieldType} {F L nl : Nat} {pc : Nat} {lv : List (Nat × Value)} {st : List Value} {h : AH} {f : Option (α × AH)}
theorem J_ldcSw {i index : Nat} {tx : String} (hw : (own, index, tx, i) ∈ strW) (hd : decode cc pc = .ok (.ldc_w index, 3)) (k : J x (cc, own, nm, ret, F, L, nl) K (pc + 3) lv (sv (wx x) i :: st) h f) : J x (cc, own, nm, ret, F, L, nl) K pc lv st h f := by
  obtain ⟨p, l, e, R, s, m, args, below, meth, c, w, h0, nL⟩ := x
  intro r h' ef
  obtain ⟨q1, q2⟩ := k r h' ef
  refine ⟨q1, fun C c1 c2 c3 c4 H locs ls hH hS hl => ?_⟩
  obtain ⟨hx, hb, hml, hown, hts, hlk2, hr, hF, hL, rfl, hsz, hnm, hK, hSK⟩ := id C
  have hZ := hK.2.2.1 _ hw
  intro T hT X
  obtain ⟨t, a1, b1⟩ := q2 C c1 c2 c3 c4 H locs ls hH hS hl T hT X
  exact ⟨t, Stand.ldcStringW X hx hown (text := tx) hZ.1 hZ.2 (g := F0 m pc ls st) rfl (by rw [hb]; exact hd) t a1, b1⟩
end
