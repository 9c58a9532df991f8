/-! making cells, calls, returns -/
theorem HR.push {w : WT} {h : AH} {H H1 : Heap} {c n : Nat} (R : HR w h H) (hsz : H.size = w.1 + xn h) (hc : c < 23) (z1 : H1.size = H.size + 1) (o1 : ∀ q, q < H.size → H1[q]? = H[q]?) (hcell : va_at w.2.1 vwCl (w.1 + xn h, ce w.1 w.2.2.1 (pN h c n) (xn h)) H1) : HR w (pN h c n) H1 := by
  refine ⟨by rw [xn_pN]; omega, by rw [xn_pN]; omega, ?_, fun a ha => ?_, ?_⟩
  · rw [xc_pN, if_neg (by have := R.2.1; omega)]; exact R.2.2.1
  · rw [xn_pN] at ha
    rw [xc_pN, if_neg (by omega)]; exact R.2.2.2.1 a (by omega)
  · rw [pw_push hc]
    refine va_P.app (R.2.2.2.2.kept (fun k q hq => o1 q.1 ((R.2.2.2.2 k q hq).lt))) (fun k q hq => ?_)
    have hz : k < 1 := (List.getElem?_eq_some_iff.mp hq).1
    rw [show k = 0 by omega] at hq
    cases hq
    exact hcell
section CROWS
variable {x : CT} {α β : Type} {K : CT → α → AH → State → Prop} {cc : ByteArray} {own nm : String} {ret : Option FieldType} {F L nl : Nat} {pc : Nat} {lv lv' : List (Nat × Value)} {st : List Value} {h : AH} {f : Option (α × AH)}
/-- a cell is made -/
theorem J.makes {pc2 : Nat} {s1 s2 : Nat → List Value} {ci n : Nat} (hc : ci < 23)
    (hW : ∀ (p : Program) (l : Launch) (e : Env) (R : Room) (s : State) (m : MethodId) (args : Array Value) (below : List Frame) (meth : Method) (c : Code) (w : WT) (H : Heap) (locs : List Loc) (cells slots : Nat) (Q : State → Prop) (ls : Array Slot), p.tables.exec = Jvm.exec → c.code = cc → s.vm.findClass own = some m.cls → (∀ q ∈ WG, q.before args s = true) → Kx w s → cells + 1 ≤ R.cells → slots + n ≤ R.slots → H.size = w.1 + xn h → 1 ≤ xn h →
      (∀ H1 : Heap, H1.size = H.size + 1 → (∀ q, q < H.size → H1[q]? = H[q]?) → va_at w.2.1 vwCl (w.1 + xn h, ce w.1 w.2.2.1 (pN h ci n) (xn h)) H1 → W p l e R s m args below meth c H1 locs (cells + 1) (slots + n) Q (F0 m pc2 ls (s2 w.1))) → W p l e R s m args below meth c H locs cells slots Q (F0 m pc ls (s1 w.1)))
    (k : J x (cc, own, nm, ret, F, L, nl) K pc2 lv (s2 (zx x)) (pN h ci n) f) : J x (cc, own, nm, ret, F, L, nl) K pc lv (s1 (zx x)) h f := by
  obtain ⟨p, l, e, R, s, m, args, below, meth, c, w, h0, nL⟩ := x
  intro r h' ef
  obtain ⟨q1, q2⟩ := k r h' ef
  rw [xn_pN, xs_pN] at q1
  refine ⟨⟨by omega, by omega⟩, fun C c1 c2 c3 c4 H locs ls hH hS hl => ?_⟩
  obtain ⟨hx, hb, hml, hown, hts, hlk, hr, -, -, rfl, hsz, hnm, hK, -⟩ := id C
  intro T hT X
  have hs1 := X.heapSize
  rw [hT] at hs1
  have hs2 : H.size = w.1 + xn h := by have := hH.1; omega
  refine hW p l e R s m args below meth c w H locs _ _ _ ls hx hb hown hts hK (by omega) (by omega) hs2 hH.2.1 (fun H1 z1 o1 hcell => ?_) T hT X
  have q3 := q2 C c1 c2 (by rw [xn_pN]; omega) (by rw [xs_pN]; omega) H1 locs ls (hH.push hs2 hc z1 o1 hcell) ⟨by have := hS.1; omega, fun q a b => (o1 q (Nat.lt_of_lt_of_le a hS.1)).trans (hS.2.1 q a b), hS.2.2⟩ hl
  refine W.cs ?_ ?_ q3
  · rw [xn_pN]; omega
  · rw [xs_pN]; omega
theorem J_new {ci N index : Nat} {Cn : String} {T : u_T} {ty : Nat → FieldType} (kc : KC ci Cn T N ty) (hw : Cond.classLink own index Cn ∈ WG) (hi : Cond.instantiable Cn N ∈ WG) (hz : Cond.initialized Cn ∈ WG) (hd : decode cc pc = .ok (.new index, 3)) (kk : J x (cc, own, nm, ret, F, L, nl) K (pc + 3) lv (rv (zx x) (xn h) :: st) (pN h ci N) f) : J x (cc, own, nm, ret, F, L, nl) K pc lv st h f := by
  obtain ⟨k1, k2, k3, k4, k5, k6, k7⟩ := kc
  refine J.makes (s1 := fun _ => st) (s2 := fun z => rv z (xn h) :: st) (ci := ci) (n := N) (by omega) (fun p l e R s m args below meth c w H locs cells slots Q ls hx hb hown hts hK hcl hsl hsz h1 kk => ?_) kk
  have hKn := hK.1.1 ci _ k2
  refine W.newcK hx hb hown (hts _ hw) (hts _ hi) (hts _ hz) rfl hd hcl hsl hKn.2.1 rfl fun H1 kC hkC e1 z1 o1 => ?_
  have gq : xc (pN h ci N) (xn h) = ci := by rw [xc_pN, if_pos rfl]
  have hat : va_at w.2.1 vwCl (w.1 + xn h, ce w.1 w.2.2.1 (pN h ci N) (xn h)) H1 := by
    rw [ce_obj gq k1]
    refine ⟨_, k2, ?_⟩
    show t_OB (w.1 + xn h) _ N _ H1 (vp_V (fl w.1 (pN h ci N) (xn h)))
    rw [← hsz]
    refine (u_born ty hts k4 hKn hkC e1 k5).to (fun j hj => ?_)
    show defaultValue (ty j) = vp_V (fl w.1 (pN h ci N) (xn h)) j
    unfold vp_V
    rw [List.getD_eq_getElem?_getD, fl_get gq (by rw [k3]; exact hj), k7 j hj]
    unfold fv
    by_cases t1 : ft ci j = 1
    · rw [if_pos t1, if_pos t1, xL_pN, if_pos rfl]; rfl
    · rw [if_neg t1, if_neg t1]
      by_cases t2 : ft ci j = 2
      · rw [if_pos t2, if_pos t2, xR_pN, if_pos rfl]; rfl
      · rw [if_neg t2, if_neg t2, xI_pN, if_pos rfl]; rfl
  have e0 := kk H1 z1 o1 hat
  rw [show rv w.1 (xn h) = .ref (w.1 + xn h) from rv_pos (by omega), ← hsz] at e0
  exact e0
theorem J_newarr16 {n : Int32} (hw : Cond.arrayClass .int ∈ WG) (hd : decode cc pc = .ok (.newarray .int, 2)) (gn : ¬ n < 0 ∧ n.toNatClampNeg ≤ 100000) (kk : J x (cc, own, nm, ret, F, L, nl) K (pc + 2) lv (rv (zx x) (xn h) :: st) (pN h 16 n.toNatClampNeg) f) : J x (cc, own, nm, ret, F, L, nl) K pc lv (.int n :: st) h f := by
  refine J.makes (s1 := fun _ => .int n :: st) (s2 := fun z => rv z (xn h) :: st) (ci := 16) (n := n.toNatClampNeg) (by decide) (fun p l e R s m args below meth c w H locs cells slots Q ls hx hb hown hts hK hcl hsl hsz h1 kk => ?_) kk
  refine va_newaK (atype := .int) hx hb (hts _ hw) rfl hd rfl gn.1 rfl (by
    have h2 := gn.2
    have h3 : componentBytes (newarray.typeOf .int) ≤ 8 := by decide
    exact Nat.le_trans (Nat.mul_le_mul h2 h3) (by decide)) hcl hsl rfl fun H1 cA e1 z1 o1 hAr hNm => ?_
  have gq : xc (pN h 16 n.toNatClampNeg) (xn h) = 16 := by rw [xc_pN, if_pos rfl]
  have hcy : cA = w.2.2.1 16 := Option.some.inj (hNm.symm.trans (hK.1.2 0 _ rfl).2)
  have hat : va_at w.2.1 vwCl (w.1 + xn h, ce w.1 w.2.2.1 (pN h 16 n.toNatClampNeg) (xn h)) H1 := by
    rw [ce_I gq (by decide) (by decide) (by decide)]
    show H1[w.1 + xn h]? = some (vp_cell _ _)
    have ez : xz (pN h 16 n.toNatClampNeg) (xn h) = n.toNatClampNeg := by rw [xz_pN, if_pos rfl]
    have ef : xI (pN h 16 n.toNatClampNeg) (xn h) = fun _ => 0 := by funext j; rw [xI_pN, if_pos rfl]
    rw [ez, ef, ← hsz, e1, hcy]
    rfl
  have e0 := kk H1 z1 o1 hat
  rw [show rv w.1 (xn h) = .ref (w.1 + xn h) from rv_pos (by omega), ← hsz] at e0
  exact e0
theorem J_newarr17 {n : Int32} (hw : Cond.arrayClass .long ∈ WG) (hd : decode cc pc = .ok (.newarray .long, 2)) (gn : ¬ n < 0 ∧ n.toNatClampNeg ≤ 100000) (kk : J x (cc, own, nm, ret, F, L, nl) K (pc + 2) lv (rv (zx x) (xn h) :: st) (pN h 17 n.toNatClampNeg) f) : J x (cc, own, nm, ret, F, L, nl) K pc lv (.int n :: st) h f := by
  refine J.makes (s1 := fun _ => .int n :: st) (s2 := fun z => rv z (xn h) :: st) (ci := 17) (n := n.toNatClampNeg) (by decide) (fun p l e R s m args below meth c w H locs cells slots Q ls hx hb hown hts hK hcl hsl hsz h1 kk => ?_) kk
  refine va_newaK (atype := .long) hx hb (hts _ hw) rfl hd rfl gn.1 rfl (by
    have h2 := gn.2
    have h3 : componentBytes (newarray.typeOf .long) ≤ 8 := by decide
    exact Nat.le_trans (Nat.mul_le_mul h2 h3) (by decide)) hcl hsl rfl fun H1 cA e1 z1 o1 hAr hNm => ?_
  have gq : xc (pN h 17 n.toNatClampNeg) (xn h) = 17 := by rw [xc_pN, if_pos rfl]
  have hcy : cA = w.2.2.1 17 := Option.some.inj (hNm.symm.trans (hK.1.2 1 _ rfl).2)
  have hat : va_at w.2.1 vwCl (w.1 + xn h, ce w.1 w.2.2.1 (pN h 17 n.toNatClampNeg) (xn h)) H1 := by
    rw [ce_J gq]
    show H1[w.1 + xn h]? = some (vp_cell _ _)
    have ez : xz (pN h 17 n.toNatClampNeg) (xn h) = n.toNatClampNeg := by rw [xz_pN, if_pos rfl]
    have ef : xL (pN h 17 n.toNatClampNeg) (xn h) = fun _ => 0 := by funext j; rw [xL_pN, if_pos rfl]
    rw [ez, ef, ← hsz, e1, hcy]
    rfl
  have e0 := kk H1 z1 o1 hat
  rw [show rv w.1 (xn h) = .ref (w.1 + xn h) from rv_pos (by omega), ← hsz] at e0
  exact e0
theorem J_newarr18 {n : Int32} (hw : Cond.arrayClass .byte ∈ WG) (hd : decode cc pc = .ok (.newarray .byte, 2)) (gn : ¬ n < 0 ∧ n.toNatClampNeg ≤ 100000) (kk : J x (cc, own, nm, ret, F, L, nl) K (pc + 2) lv (rv (zx x) (xn h) :: st) (pN h 18 n.toNatClampNeg) f) : J x (cc, own, nm, ret, F, L, nl) K pc lv (.int n :: st) h f := by
  refine J.makes (s1 := fun _ => .int n :: st) (s2 := fun z => rv z (xn h) :: st) (ci := 18) (n := n.toNatClampNeg) (by decide) (fun p l e R s m args below meth c w H locs cells slots Q ls hx hb hown hts hK hcl hsl hsz h1 kk => ?_) kk
  refine va_newaK (atype := .byte) hx hb (hts _ hw) rfl hd rfl gn.1 rfl (by
    have h2 := gn.2
    have h3 : componentBytes (newarray.typeOf .byte) ≤ 8 := by decide
    exact Nat.le_trans (Nat.mul_le_mul h2 h3) (by decide)) hcl hsl rfl fun H1 cA e1 z1 o1 hAr hNm => ?_
  have gq : xc (pN h 18 n.toNatClampNeg) (xn h) = 18 := by rw [xc_pN, if_pos rfl]
  have hcy : cA = w.2.2.1 18 := Option.some.inj (hNm.symm.trans (hK.1.2 2 _ rfl).2)
  have hat : va_at w.2.1 vwCl (w.1 + xn h, ce w.1 w.2.2.1 (pN h 18 n.toNatClampNeg) (xn h)) H1 := by
    rw [ce_I gq (by decide) (by decide) (by decide)]
    show H1[w.1 + xn h]? = some (vp_cell _ _)
    have ez : xz (pN h 18 n.toNatClampNeg) (xn h) = n.toNatClampNeg := by rw [xz_pN, if_pos rfl]
    have ef : xI (pN h 18 n.toNatClampNeg) (xn h) = fun _ => 0 := by funext j; rw [xI_pN, if_pos rfl]
    rw [ez, ef, ← hsz, e1, hcy]
    rfl
  have e0 := kk H1 z1 o1 hat
  rw [show rv w.1 (xn h) = .ref (w.1 + xn h) from rv_pos (by omega), ← hsz] at e0
  exact e0
theorem J_newarr19 {n : Int32} (hw : Cond.arrayClass .boolean ∈ WG) (hd : decode cc pc = .ok (.newarray .boolean, 2)) (gn : ¬ n < 0 ∧ n.toNatClampNeg ≤ 100000) (kk : J x (cc, own, nm, ret, F, L, nl) K (pc + 2) lv (rv (zx x) (xn h) :: st) (pN h 19 n.toNatClampNeg) f) : J x (cc, own, nm, ret, F, L, nl) K pc lv (.int n :: st) h f := by
  refine J.makes (s1 := fun _ => .int n :: st) (s2 := fun z => rv z (xn h) :: st) (ci := 19) (n := n.toNatClampNeg) (by decide) (fun p l e R s m args below meth c w H locs cells slots Q ls hx hb hown hts hK hcl hsl hsz h1 kk => ?_) kk
  refine va_newaK (atype := .boolean) hx hb (hts _ hw) rfl hd rfl gn.1 rfl (by
    have h2 := gn.2
    have h3 : componentBytes (newarray.typeOf .boolean) ≤ 8 := by decide
    exact Nat.le_trans (Nat.mul_le_mul h2 h3) (by decide)) hcl hsl rfl fun H1 cA e1 z1 o1 hAr hNm => ?_
  have gq : xc (pN h 19 n.toNatClampNeg) (xn h) = 19 := by rw [xc_pN, if_pos rfl]
  have hcy : cA = w.2.2.1 19 := Option.some.inj (hNm.symm.trans (hK.1.2 3 _ rfl).2)
  have hat : va_at w.2.1 vwCl (w.1 + xn h, ce w.1 w.2.2.1 (pN h 19 n.toNatClampNeg) (xn h)) H1 := by
    rw [ce_I gq (by decide) (by decide) (by decide)]
    show H1[w.1 + xn h]? = some (vp_cell _ _)
    have ez : xz (pN h 19 n.toNatClampNeg) (xn h) = n.toNatClampNeg := by rw [xz_pN, if_pos rfl]
    have ef : xI (pN h 19 n.toNatClampNeg) (xn h) = fun _ => 0 := by funext j; rw [xI_pN, if_pos rfl]
    rw [ez, ef, ← hsz, e1, hcy]
    rfl
  have e0 := kk H1 z1 o1 hat
  rw [show rv w.1 (xn h) = .ref (w.1 + xn h) from rv_pos (by omega), ← hsz] at e0
  exact e0
theorem J_anew {t t0 index : Nat} {Cn : String} {n : Int32} (h1 : ¬ t < 20) (h2 : t < 23) (ht : ∀ cy, (tysA cy)[t0]? = some (cy t, .object Cn)) (hao : Cn ∈ aoW) (hw : Cond.classLink own index Cn ∈ WG) (hd : decode cc pc = .ok (.anewarray index, 3)) (gn : ¬ n < 0 ∧ n.toNatClampNeg ≤ 100000) (kk : J x (cc, own, nm, ret, F, L, nl) K (pc + 3) lv (rv (zx x) (xn h) :: st) (pN h t n.toNatClampNeg) f) : J x (cc, own, nm, ret, F, L, nl) K pc lv (.int n :: st) h f := by
  refine J.makes (s1 := fun _ => .int n :: st) (s2 := fun z => rv z (xn h) :: st) (ci := t) (n := n.toNatClampNeg) (by omega) (fun p l e R s m args below meth c w H locs cells slots Q ls hx hb hown hts hK hcl hsl hsz g1 kk => ?_) kk
  refine W.anew hx hb hown (hts _ hw) (va_AO.use (hK.2.2.2 _ hao)) rfl hd rfl gn.1 (by have h2 := gn.2; omega) hcl hsl fun cA kA comp f1 f2 f3 f4 => ?_
  generalize hH1 : H.push ({ cls := cA, slots := Array.replicate n.toNatClampNeg .null, vm := .none } : Cell) = H1
  have z1 : H1.size = H.size + 1 := by rw [← hH1, Array.size_push]
  have e1 : H1[H.size]? = some (arrV cA n.toNatClampNeg (fun _ => .null)) := by rw [← hH1, Array.getElem?_push_size, ← arrV_new]
  have o1 : ∀ q : Nat, q < H.size → H1[q]? = H[q]? := fun q hq => by rw [← hH1, Array.getElem?_push, if_neg (Nat.ne_of_lt hq)]
  have gq : xc (pN h t n.toNatClampNeg) (xn h) = t := by rw [xc_pN, if_pos rfl]
  obtain ⟨kA', comp', r1, r2, r3, r4⟩ := (hK.1.2 t0 _ (ht w.2.2.1)).2
  have hcy : cA = w.2.2.1 t := Option.some.inj (f1.symm.trans r4)
  have hat : va_at w.2.1 vwCl (w.1 + xn h, ce w.1 w.2.2.1 (pN h t n.toNatClampNeg) (xn h)) H1 := by
    rw [ce_R gq (by omega) (by omega) (by omega)]
    show H1[w.1 + xn h]? = some (vp_cell _ _)
    have ez : xz (pN h t n.toNatClampNeg) (xn h) = n.toNatClampNeg := by rw [xz_pN, if_pos rfl]
    have ef : (fun j => ro w.1 (xR (pN h t n.toNatClampNeg) (xn h) j)) = fun _ => none := by funext j; rw [xR_pN, if_pos rfl]; rfl
    rw [ez, ef, ← hsz, e1, hcy]
    rfl
  have e0 := kk H1 z1 o1 hat
  rw [show rv w.1 (xn h) = .ref (w.1 + xn h) from rv_pos (by omega), ← hsz] at e0
  exact e0
/-! returns -/
def KI : Int32 → Option Value := fun r => some (.int r)
def KL : Int64 → Option Value := fun r => some (.long r)
def KV : Unit → Option Value := fun _ => none
def KR (z : Nat) : Nat → Option Value := fun r => some (rv z r)
/-- the end of a method that returns -/
def ZK {γ : Type} (K : γ → Option Value) : CT → γ → AH → State → Prop := fun x r h' => match x with
  | (p, l, e, R, s, m, args, below, meth, c, w, h0, nL) => MQ below (Qx w K r h') args s R.cells R.slots (fz w)
abbrev ZI : CT → Int32 → AH → State → Prop := ZK KI
abbrev ZL : CT → Int64 → AH → State → Prop := ZK KL
abbrev ZV : CT → Unit → AH → State → Prop := ZK KV
abbrev ZR (z : Nat) : CT → Nat → AH → State → Prop := ZK (KR z)
theorem J_iret {v : Int32} (hd : decode cc pc = .ok (.ireturn, 1)) : J x (cc, own, nm, some .int, F, L, nl) ZI pc lv [.int v] h (some (v, h)) := by
  obtain ⟨p, l, e, R, s, m, args, below, meth, c, w, h0, nL⟩ := x
  intro r h' ef
  cases ef
  refine ⟨⟨Nat.le_refl _, Nat.le_refl _⟩, fun C c1 c2 c3 c4 H locs ls hH hS hl => ?_⟩
  obtain ⟨hx, hb, hml, hown, hts, hlk, hr, -, -, rfl, hsz, hnm, hK, -⟩ := id C
  refine W.widen c1 c2 ?_
  exact W.iret hx hb hr (fun t ht hW => ⟨rfl, by rw [ht]; exact hH, hS.F ht⟩) hS.2.2 hd hlk
theorem J_zret {v : Int32} (hd : decode cc pc = .ok (.ireturn, 1)) (g : bz v) : J x (cc, own, nm, some .boolean, F, L, nl) ZI pc lv [.int v] h (some (v, h)) := by
  obtain ⟨p, l, e, R, s, m, args, below, meth, c, w, h0, nL⟩ := x
  intro r h' ef
  cases ef
  refine ⟨⟨Nat.le_refl _, Nat.le_refl _⟩, fun C c1 c2 c3 c4 H locs ls hH hS hl => ?_⟩
  obtain ⟨hx, hb, hml, hown, hts, hlk, hr, -, -, rfl, hsz, hnm, hK, -⟩ := id C
  refine W.widen c1 c2 ?_
  exact W.zret hx hb hr (by rcases g with rfl | rfl <;> rfl) (fun t ht hW => ⟨rfl, by rw [ht]; exact hH, hS.F ht⟩) hS.2.2 hd hlk
theorem J_lret {v : Int64} (hd : decode cc pc = .ok (.lreturn, 1)) : J x (cc, own, nm, some .long, F, L, nl) ZL pc lv [.long v] h (some (v, h)) := by
  obtain ⟨p, l, e, R, s, m, args, below, meth, c, w, h0, nL⟩ := x
  intro r h' ef
  cases ef
  refine ⟨⟨Nat.le_refl _, Nat.le_refl _⟩, fun C c1 c2 c3 c4 H locs ls hH hS hl => ?_⟩
  obtain ⟨hx, hb, hml, hown, hts, hlk, hr, -, -, rfl, hsz, hnm, hK, -⟩ := id C
  refine W.widen c1 c2 ?_
  exact W.lret hx hb hr (fun t ht hW => ⟨rfl, by rw [ht]; exact hH, hS.F ht⟩) hS.2.2 hd hlk
theorem J_vret (hd : decode cc pc = .ok (.return_, 1)) : J x (cc, own, nm, none, F, L, nl) ZV pc lv [] h (some ((), h)) := by
  obtain ⟨p, l, e, R, s, m, args, below, meth, c, w, h0, nL⟩ := x
  intro r h' ef
  cases ef
  refine ⟨⟨Nat.le_refl _, Nat.le_refl _⟩, fun C c1 c2 c3 c4 H locs ls hH hS hl => ?_⟩
  obtain ⟨hx, hb, hml, hown, hts, hlk, hr, -, -, rfl, hsz, hnm, hK, -⟩ := id C
  refine W.widen c1 c2 ?_
  exact W.vret hx hb hr (fun t ht hW => ⟨rfl, by rw [ht]; exact hH, hS.F ht⟩) hS.2.2 hd hlk
theorem J_aret {rt : FieldType} (hrt : (∃ n, rt = .object n) ∨ ∃ t, rt = .array t) {v : Nat} (hd : decode cc pc = .ok (.areturn, 1)) : J x (cc, own, nm, some rt, F, L, nl) (ZR (zx x)) pc lv [rv (zx x) v] h (some (v, h)) := by
  obtain ⟨p, l, e, R, s, m, args, below, meth, c, w, h0, nL⟩ := x
  intro r h' ef
  cases ef
  refine ⟨⟨Nat.le_refl _, Nat.le_refl _⟩, fun C c1 c2 c3 c4 H locs ls hH hS hl => ?_⟩
  obtain ⟨hx, hb, hml, hown, hts, hlk, hr, -, -, rfl, hsz, hnm, hK, -⟩ := id C
  refine W.widen c1 c2 ?_
  exact W.aret hx hb hr hrt rv_is (fun t ht hW => ⟨rfl, by rw [ht]; exact hH, hS.F ht⟩) hS.2.2 hd hlk
/-! contracts -/
def Pcx (w : WT) (av : List Value) (h : AH) : Array Value → State → Prop := fun v U => v = av.toArray ∧ U.heap.size = w.1 + xn h ∧ HR w h U.heap ∧ Kx w U ∧ SK w U U.heap
def CM (l : Launch) (w : WT) (y : MethodName) (cy : ByteArray) (nl : Nat) (ret : Option FieldType) (F L : Nat) {β : Type} (K : β → Option Value) (av : List Value) (h : AH) (f : Option (β × AH)) : Prop :=
  ∀ (r : β) (h' : AH), f = some (r, h') → (CT → xn h ≤ xn h' ∧ xs h ≤ xs h') ∧ (l.stackTraces = false → Met l y (Cond.code y cy nl ret :: WG) { frames := F, cells := xn h' - xn h, slots := xs h' - xs h, locals := L } (Pcx w av h) (Qx w K r h') (xn h' - xn h) (xs h' - xs h) (fz w))
theorem CM.of {l : Launch} {w : WT} {y : MethodName} {cy : ByteArray} {nl : Nat} {ret : Option FieldType} {F L : Nat} {K : β → Option Value} {av : List Value} {h : AH} {f : Option (β × AH)} (hy : plainName y.cls = true ∧ catT y.cls y.name = none) (hlen : (lg_sl av).length ≤ nl) (hlv : lv_args 0 av = lv)
    (body : ∀ x : CT, wx x = w → J x (cy, y.cls, y.name, ret, F, L, nl) (ZK K) 0 lv [] h f) : CM l w y cy nl ret F L K av h f := by
  intro r h' ef
  refine ⟨fun x => ?_, fun htr => ?_⟩
  · obtain ⟨p, l, e, R, s, m, args, below, meth, c, w2, h0, nL⟩ := x
    exact (body (p, l, e, R, s, m, args, below, meth, c, w, h0, nL) rfl r h' ef).1
  refine Met.ofW (cc := cy) (maxL := nl) (ret := ret) hy.1 rfl ?_
  intro p e s m args below meth c s₁ B hml hv
  obtain ⟨rfl, hsz, hH, hK, hSK⟩ := hv
  have hts := atoms_spec (ws := Cond.code y cy nl ret :: WG) B.pre
  have htab : tabT y.cls y.name c := by
    unfold tabT
    rw [hy.2]
    have := B.noHandlers (hts _ List.mem_cons_self)
    rw [Array.isEmpty_iff] at this
    show c.exceptionTable.toList = []
    rw [this]
  have C : Cx (p, l, e, { frames := F, cells := xn h' - xn h, slots := xs h' - xs h, locals := L }, s, m, av.toArray, below, meth, c, w, h, nl) (cy, y.cls, y.name, ret, F, L, nl) := ⟨B.exec, B.bytes, hml, findClass_of_methodNamed B.named, fun q hq => hts q (List.mem_cons_of_mem _ hq), B.notSynchronized, B.returns, rfl, rfl, rfl, ⟨hsz, hH.2.1, htab, htr⟩, (name_of_methodNamed B.named B.method).1, hK, hSK⟩
  have q := (body (p, l, e, { frames := F, cells := xn h' - xn h, slots := xs h' - xs h, locals := L }, s, m, av.toArray, below, meth, c, w, h, nl) rfl r h' ef).2 C (Nat.le_refl _) (Nat.le_refl _) (Nat.le_refl _) (Nat.le_refl _) s.heap []
  rw [lg_entry_eq]
  have hl := lv_entry av (n := nl) hlen
  rw [hlv] at hl
  have q2 := q _ hH va_S.rf hl
  rw [Nat.sub_self, Nat.sub_self] at q2
  exact q2
end CROWS
