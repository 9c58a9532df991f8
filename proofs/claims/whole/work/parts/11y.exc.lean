/-! methods that may throw: their plain function answers .inl r (returned) or .inr a (a was thrown) -/
def NSE : String := "java/util/NoSuchElementException"
def EXc (E : String) (h : AH) (a : Nat) : Prop := (E = RX14 ∧ xc h a = 14) ∨ (E = NSE ∧ xc h a = 99)
def Qy (w : WT) {γ : Type} (K : γ → Option Value) (r : γ ⊕ Nat) (h' : AH) : Array Value → State → Outcome → State → Prop := fun _ st o t => ∃ v, r = .inl v ∧ o = .returned (K v) ∧ HR w h' t.heap ∧ va_F (fz w) st t
def Xy (w : WT) {γ : Type} (r : γ ⊕ Nat) (h' : AH) : String → Addr → State → State → Prop := fun E q st t => ∃ a, r = .inr a ∧ a ≠ 0 ∧ q = w.1 + a ∧ EXc E h' a ∧ HR w h' t.heap ∧ va_F (fz w) st t
def YK {γ : Type} (K : γ → Option Value) : CT → (γ ⊕ Nat) → AH → State → Prop := fun x r h' => match x with
  | (p, l, e, R, s, m, args, below, meth, c, w, h0, nL) => vy_MQ below (Qy w K r h') (Xy w r h') args s R.cells R.slots (fz w)
abbrev YI : CT → (Int32 ⊕ Nat) → AH → State → Prop := YK KI
abbrev YV : CT → (Unit ⊕ Nat) → AH → State → Prop := YK KV
def CX (l : Launch) (w : WT) (y : MethodName) (cy : ByteArray) (nl : Nat) (ret : Option FieldType) (F L : Nat) {β : Type} (K : β → Option Value) (av : List Value) (h : AH) (f : Option ((β ⊕ Nat) × AH)) : Prop :=
  ∀ (r : β ⊕ Nat) (h' : AH), f = some (r, h') → (CT → xn h ≤ xn h' ∧ xs h ≤ xs h') ∧ (l.stackTraces = false → vy_Met l y (Cond.code y cy nl ret :: WG) { frames := F, cells := xn h' - xn h, slots := xs h' - xs h, locals := L } (Pcx w av h) (Qy w K r h') (Xy w r h') (xn h' - xn h) (xs h' - xs h) (fz w))
def BX {α β : Type} (m : Option ((β ⊕ Nat) × AH)) (k : β → AH → Option ((α ⊕ Nat) × AH)) : Option ((α ⊕ Nat) × AH) := match m with
  | none => none
  | some (.inl a, h) => k a h
  | some (.inr a, h) => some (.inr a, h)
/-- caught: g is the kind of what is caught -/
def BC {α β : Type} (g : Nat) (m : Option ((β ⊕ Nat) × AH)) (k : β → AH → Option (α × AH)) (kh : Nat → AH → Option (α × AH)) : Option (α × AH) := match m with
  | none => none
  | some (.inl a, h) => k a h
  | some (.inr a, h) => G (xc h a = g) (kh a h)
section EXC
variable {x : CT} {α β : Type} {cc : ByteArray} {own nm : String} {ret : Option FieldType} {F L nl : Nat} {pc : Nat} {lv : List (Nat × Value)} {st st0 : List Value} {h : AH} {y : MethodName} {cy : ByteArray} {nly Fy Ly : Nat} {rety : Option FieldType}
theorem CX.of {l : Launch} {w : WT} {K : β → Option Value} {av : List Value} {f : Option ((β ⊕ Nat) × AH)} (hy : plainName y.cls = true ∧ catT y.cls y.name = none) (hlen : (lg_sl av).length ≤ nl) (hlv : lv_args 0 av = lv)
    (body : ∀ x : CT, wx x = w → J x (cy, y.cls, y.name, ret, F, L, nl) (YK K) 0 lv [] h f) : CX l w y cy nl ret F L K av h f := by
  intro r h' ef
  refine ⟨fun x => ?_, fun htr => ?_⟩
  · obtain ⟨p, l, e, R, s, m, args, below, meth, c, w2, h0, nL⟩ := x
    exact (body (p, l, e, R, s, m, args, below, meth, c, w, h0, nL) rfl r h' ef).1
  refine vy_ofW (cc := cy) (maxL := nl) (ret := ret) hy.1 rfl ?_
  intro p e s m args below meth c s₁ B hml htb hv
  obtain ⟨rfl, hsz, hH, hK, hSK⟩ := hv
  have hts := atoms_spec (ws := Cond.code y cy nl ret :: WG) B.pre
  have htab : tabT y.cls y.name c := by
    unfold tabT
    rw [hy.2]
    have := B.noHandlers (hts _ List.mem_cons_self)
    rw [Array.isEmpty_iff] at this
    show c.exceptionTable.toList = []
    rw [this]
  have C : Cx (p, l, e, { frames := F, cells := xn h' - xn h, slots := xs h' - xs h, locals := L }, s, m, av.toArray, below, meth, c, w, h, nl) (cy, y.cls, y.name, ret, F, L, nl) := ⟨B.exec, B.bytes, hml, findClass_of_methodNamed B.named, fun q hq => hts q (List.mem_cons_of_mem _ hq), B.notSynchronized, B.returns, rfl, rfl, rfl, ⟨hsz, hH.2.1, htab, htr⟩, (name_of_methodNamed B.named B.method).1, hK, hSK⟩
  have q := (body (p, l, e, { frames := F, cells := xn h' - xn h, slots := xs h' - xs h, locals := L }, s, m, av.toArray, below, meth, c, w, h, nl) rfl r h' ef).2 C (Nat.le_refl _) (Nat.le_refl _) (Nat.le_refl _) (Nat.le_refl _) s.heap []
  rw [lg_entry_eq]
  have hl := lv_entry av (n := nl) hlen
  rw [hlv] at hl
  have q2 := q _ hH va_S.rf hl
  rw [Nat.sub_self, Nat.sub_self] at q2
  exact q2
theorem J_iretY {v : Int32} (hd : decode cc pc = .ok (.ireturn, 1)) : J x (cc, own, nm, some .int, F, L, nl) YI pc lv [.int v] h (some (.inl v, h)) := by
  obtain ⟨p, l, e, R, s, m, args, below, meth, c, w, h0, nL⟩ := x
  intro r h' ef
  cases ef
  refine ⟨⟨Nat.le_refl _, Nat.le_refl _⟩, fun C c1 c2 c3 c4 H locs ls hH hS hl => ?_⟩
  obtain ⟨hx, hb, hml, hown, hts, hlk, hr, -, -, rfl, hsz, hnm, hK, -⟩ := id C
  refine W.widen c1 c2 (vy_ret ?_)
  exact W.iret hx hb hr (fun t ht hW => ⟨v, rfl, rfl, by rw [ht]; exact hH, hS.F ht⟩) hS.2.2 hd hlk
theorem J_vretY (hd : decode cc pc = .ok (.return_, 1)) : J x (cc, own, nm, none, F, L, nl) YV pc lv [] h (some (.inl (), h)) := by
  obtain ⟨p, l, e, R, s, m, args, below, meth, c, w, h0, nL⟩ := x
  intro r h' ef
  cases ef
  refine ⟨⟨Nat.le_refl _, Nat.le_refl _⟩, fun C c1 c2 c3 c4 H locs ls hH hS hl => ?_⟩
  obtain ⟨hx, hb, hml, hown, hts, hlk, hr, -, -, rfl, hsz, hnm, hK, -⟩ := id C
  refine W.widen c1 c2 (vy_ret ?_)
  exact W.vret hx hb hr (fun t ht hW => ⟨(), rfl, rfl, by rw [ht]; exact hH, hS.F ht⟩) hS.2.2 hd hlk
theorem stop_cell {w : WT} {h : AH} {H : Heap} {s : State} {a : Nat} (hH : HR w h H) (hK : Kx w s) (g : xc h a = 14) : a ≠ 0 ∧ ∃ ce : Cell, H[w.1 + a]? = some ce ∧ ce.vm = .none ∧ s.vm.findClass RX14 = some ce.cls := by
  obtain ⟨n0, n1⟩ := hH.pos (a := a) (by omega)
  obtain ⟨k0, -, hk0⟩ := pw_get (z := w.1) (cy := w.2.2.1) n1 (by omega : xc h a < 23)
  rw [ce_obj g (by decide)] at hk0
  obtain ⟨r, h1, cell, q1, q2, q3, q4⟩ := hH.2.2.2.2 k0 _ hk0
  refine ⟨n0, cell, q1, q3, ?_⟩
  rw [q2]
  exact (hK.1.1 14 _ rfl).2.1
theorem no_table {own nm : String} {c : Code} (h : tabT own nm c) (hct : catT own nm = none) (pc : Nat) : ∀ z ∈ c.exceptionTable.toList, covers z pc = false := by
  unfold tabT at h
  rw [hct] at h
  intro z hz
  have h2 : c.exceptionTable.toList = [] := h
  rw [h2] at hz
  cases hz
theorem J_athrow {K : α → Option Value} {a : Nat} (hct : catT own nm = none) (hd : decode cc pc = .ok (.athrow, 1)) (g : xc h a = 14) : J x (cc, own, nm, ret, F, L, nl) (YK K) pc lv (rv (zx x) a :: st) h (some (.inr a, h)) := by
  obtain ⟨p, l, e, R, s, m, args, below, meth, c, w, h0, nL⟩ := x
  intro r h' ef
  cases ef
  refine ⟨⟨Nat.le_refl _, Nat.le_refl _⟩, fun C c1 c2 c3 c4 H locs ls hH hS hl => ?_⟩
  obtain ⟨hx, hb, hml, hown, hts, hlk, hr, -, -, rfl, hsz, hnm, hK, -⟩ := id C
  obtain ⟨n0, ce, e1, e2, e3⟩ := stop_cell hH hK g
  intro T hT X
  obtain ⟨st1, hrun, hend, hW, hsm⟩ := X.athrowLeaves hx (g := F0 m pc ls (.ref (w.1 + a) :: st)) rfl rfl rfl (no_table hsz.2.2.1 hct pc) (a := w.1 + a) (rest := st) rfl (by rw [hb]; exact hd) hlk
  have hh : (T.setFrames (.throwing (w.1 + a) :: below)).heap = H := hT
  refine ⟨_, ?_, .threw (w.1 + a), hrun, hend, Or.inr ⟨w.1 + a, rfl, RX14, ce, locs, ⟨a, rfl, n0, rfl, Or.inl ⟨rfl, g⟩, by rw [hh]; exact hH, hS.F hh⟩, by rw [hh]; exact e1, e2, e3, hW, hsm.mono c1 c2, hS.2.2⟩⟩
  show Steps p.tables e below (T.setTop (F0 m pc ls (rv w.1 a :: st))) _
  rw [rv_pos n0]
  exact st1
theorem BX_some {m : Option ((β ⊕ Nat) × AH)} {k : β → AH → Option ((α ⊕ Nat) × AH)} {r : (α ⊕ Nat) × AH} (h : BX m k = some r) : (∃ a h1, m = some (.inl a, h1) ∧ k a h1 = some r) ∨ ∃ a h1, m = some (.inr a, h1) ∧ r = (.inr a, h1) := by
  rcases m with _ | ⟨a | a, h1⟩
  · cases h
  · exact Or.inl ⟨a, h1, rfl, h⟩
  · cases h; exact Or.inr ⟨a, h1, rfl, rfl⟩
theorem BC_some {g : Nat} {m : Option ((β ⊕ Nat) × AH)} {k : β → AH → Option (α × AH)} {kh : Nat → AH → Option (α × AH)} {r : α × AH} (h : BC g m k kh = some r) : (∃ a h1, m = some (.inl a, h1) ∧ k a h1 = some r) ∨ ∃ a h1, m = some (.inr a, h1) ∧ xc h1 a = g ∧ kh a h1 = some r := by
  rcases m with _ | ⟨a | a, h1⟩
  · cases h
  · exact Or.inl ⟨a, h1, rfl, h⟩
  · obtain ⟨e1, e2⟩ := G_some h
    exact Or.inr ⟨a, h1, rfl, e1, e2⟩
theorem EXc.cell {w : WT} {h : AH} {a : Nat} {E : String} (hE : EXc E h a) : xc h a = 14 → E = RX14 := fun g => by
  rcases hE with ⟨e, -⟩ | ⟨-, e⟩
  · exact e
  · omega
/-- behind a call that may throw -/
theorem WRy {p : Program} {l : Launch} {e : Env} {R : Room} {s : State} {m : MethodId} {args : Array Value} {below : List Frame} {meth : Method} {c : Code} {H : Heap} {locs : List Loc} {cells slots mc ms : Nat} {Q : State → Prop} {w : WT} {K2 : β → Option Value} {r : β ⊕ Nat} {h1 : AH} {a : Array Value} {pc : Nat} {ls : Array Slot} {st0 rest : List Value}
    (hr : vy_Run p l e R s m args below meth c H locs cells slots mc ms (F0 m pc ls st0) rest (Qy w K2 r h1 a) (Xy w r h1) (fz w)) (hS : va_S (fz w) s.heap H locs)
    (kk : ∀ (v : β) (H1 : Heap) (locs1 : List Loc), r = .inl v → HR w h1 H1 → va_S (fz w) s.heap H1 locs1 → W p l e R s m args below meth c H1 locs1 (cells + mc) (slots + ms) Q (F0 m (pc + 3) ls ((K2 v).toList ++ rest)))
    (kx : ∀ (b : Nat) (E : String) (ce : Cell) (H1 : Heap) (locs1 : List Loc), r = .inr b → b ≠ 0 → EXc E h1 b → H1[w.1 + b]? = some ce → ce.vm = .none → s.vm.findClass E = some ce.cls → HR w h1 H1 → va_S (fz w) s.heap H1 locs1 → vx_W p l e R s m args below meth c H1 locs1 (cells + mc) (slots + ms) Q (F0 m pc ls rest) (w.1 + b)) : W p l e R s m args below meth c H locs cells slots Q (F0 m pc ls st0) := by
  intro T hT X
  rcases hr T hT X with ⟨v, st₀, t, T', L, h0, X', hL, e1, e2, ⟨v2, hv2, hv, hH, hz, hk⟩, st⟩ | ⟨q, st₀, t, T', L, E, ce, h0, X', hL, e1, e2, ⟨b, hb1, hb0, hb2, hE, hH, hz, hk⟩, hce, hcv, hcl, st⟩
  · cases hv
    rw [h0] at hz hk
    obtain ⟨t2, a1, b1⟩ := kk v2 T'.heap (locs ++ L) hv2 (by rw [e1]; exact hH)
      ⟨Nat.le_trans hS.1 (by rw [e1]; exact hz), fun q h1 h2 => by rw [e1, hk q (Nat.lt_of_lt_of_le h1 hS.1) h2]; exact hS.2.1 q h1 h2, fun q hq => by
        rcases List.mem_append.mp hq with h | h
        · exact hS.2.2 q h
        · exact hL q h⟩ T' rfl X'
    exact ⟨t2, st t2 a1, b1⟩
  · rw [h0] at hz hk
    subst hb2
    obtain ⟨t2, a1, b1⟩ := kx b E ce T'.heap (locs ++ L) hb1 hb0 hE (by rw [e1]; exact hce) hcv hcl (by rw [e1]; exact hH)
      ⟨Nat.le_trans hS.1 (by rw [e1]; exact hz), fun q h1 h2 => by rw [e1, hk q (Nat.lt_of_lt_of_le h1 hS.1) h2]; exact hS.2.1 q h1 h2, fun q hq => by
        rcases List.mem_append.mp hq with h | h
        · exact hS.2.2 q h
        · exact hL q h⟩ T' rfl X'
    exact ⟨t2, st.trans a1, b1⟩
theorem J.callsY {K : α → Option Value} {K2 : β → Option Value} {f1 : Option ((β ⊕ Nat) × AH)} {k : β → AH → Option ((α ⊕ Nat) × AH)} {av : List Value} (hct : catT own nm = none) (hM : CX (lx x) (wx x) y cy nly rety Fy Ly K2 av h f1)
    (hrun : ∀ (p : Program) (l : Launch) (e : Env) (R : Room) (s : State) (m : MethodId) (args : Array Value) (below : List Frame) (meth : Method) (c : Code) (w : WT) (H : Heap) (locs : List Loc) (cells slots : Nat) (ls : Array Slot) (r1 : β ⊕ Nat) (h1 : AH), w.1 = zx x → p.tables.exec = Jvm.exec → c.code = cc → c.maxLocals = nl → s.vm.findClass own = some m.cls → (∀ q ∈ WG, q.before args s = true) → R.frames = F → R.locals = L → Kx w s → HR w h H → ls.size = nl → cells + (xn h1 - xn h) ≤ R.cells → slots + (xs h1 - xs h) ≤ R.slots →
      vy_Met l y (Cond.code y cy nly rety :: WG) { frames := Fy, cells := xn h1 - xn h, slots := xs h1 - xs h, locals := Ly } (Pcx w av h) (Qy w K2 r1 h1) (Xy w r1 h1) (xn h1 - xn h) (xs h1 - xs h) (fz w) → (∀ U : State, U.heap = H → s.WarmedH U.vm → Pcx w av h av.toArray U) →
      vy_Run p l e R s m args below meth c H locs cells slots (xn h1 - xn h) (xs h1 - xs h) (F0 m pc ls st0) st (Qy w K2 r1 h1 av.toArray) (Xy w r1 h1) (fz w))
    (kk : ∀ r h1, J x (cc, own, nm, ret, F, L, nl) (YK K) (pc + 3) lv ((K2 r).toList ++ st) h1 (k r h1)) : J x (cc, own, nm, ret, F, L, nl) (YK K) pc lv st0 h (BX f1 k) := by
  obtain ⟨p, l, e, R, s, m, args, below, meth, c, w, h0, nL⟩ := x
  intro r h' ef
  rcases BX_some ef with ⟨a, h1, e1, ef⟩ | ⟨a, h1, e1, ef⟩
  · obtain ⟨mo, hMet⟩ := hM _ h1 e1
    obtain ⟨m1, m2⟩ := mo (p, l, e, R, s, m, args, below, meth, c, w, h0, nL)
    obtain ⟨q1, q2⟩ := kk a h1 r h' ef
    refine ⟨⟨Nat.le_trans m1 q1.1, Nat.le_trans m2 q1.2⟩, fun C c1 c2 c3 c4 H locs ls hH hS hl => ?_⟩
    obtain ⟨hx, hb, hml, hown, hts, hlk, hr, hF, hL, rfl, hsz, hnm, hK, hSK⟩ := id C
    intro T hT X
    have hs1 := X.heapSize
    rw [hT] at hs1
    have hs2 : H.size = w.1 + xn h := by have := hH.1; omega
    refine WRy (hrun p l e R s m args below meth c w H locs _ _ ls _ h1 rfl hx hb hml hown hts hF hL hK hH hl.1 (by omega) (by omega) (hMet hsz.2.2.2) (pre_Pcx hs2 hH hS hK hSK)) hS (fun v H1 locs1 hv hH1 hS1 => ?_) (fun b E ce H1 locs1 hb1 => by cases hb1) T hT X
    cases hv
    refine W.cs ?_ ?_ (q2 C c1 c2 (by omega) (by omega) H1 locs1 ls hH1 hS1 hl)
    · omega
    · omega
  · obtain ⟨mo, hMet⟩ := hM _ h1 e1
    obtain ⟨m1, m2⟩ := mo (p, l, e, R, s, m, args, below, meth, c, w, h0, nL)
    cases ef
    refine ⟨⟨m1, m2⟩, fun C c1 c2 c3 c4 H locs ls hH hS hl => ?_⟩
    obtain ⟨hx, hb, hml, hown, hts, hlk, hr, hF, hL, rfl, hsz, hnm, hK, hSK⟩ := id C
    intro T hT X
    have hs1 := X.heapSize
    rw [hT] at hs1
    have hs2 : H.size = w.1 + xn h := by have := hH.1; omega
    refine WRy (hrun p l e R s m args below meth c w H locs _ _ ls _ h' rfl hx hb hml hown hts hF hL hK hH hl.1 (by omega) (by omega) (hMet hsz.2.2.2) (pre_Pcx hs2 hH hS hK hSK)) hS (fun v H1 locs1 hv => by cases hv) (fun b E ce H1 locs1 hb1 hb0 hE e1 e2 e3 hH1 hS1 => ?_) T hT X
    cases hb1
    exact vy_out (no_table hsz.2.2.1 hct pc) hlk e1 e2 e3 (fun t ht _ => ⟨a, rfl, hb0, rfl, hE, by rw [ht]; exact hH1, hS1.F ht⟩) hS1.2.2 (by omega) (by omega)
theorem J.callVY {K : α → Option Value} {K2 : β → Option Value} {f1 : Option ((β ⊕ Nat) × AH)} {k : β → AH → Option ((α ⊕ Nat) × AH)} {b n index ci N : Nat} {As : List Value} {Cn : String} {T : u_T} {ty : Nat → FieldType} (hct : catT own nm = none) (kc : KC ci Cn T N ty) (hM : CX (lx x) (wx x) y cy nly rety Fy Ly K2 (rv (zx x) b :: As) h f1) (hcd : Cond.code y cy nly rety ∈ WG) (hlk : Cond.methodLink own index y ∈ WG) (hin : Cond.instanceMethod y ∈ WG) (hse : Cond.selects Cn y y ∈ WG) (hini : Cond.initialized Cn ∈ WG) (hy : y.cls = Cn ∧ y.cls ≠ "java/lang/invoke/MethodHandle" ∧ y.cls ≠ "java/lang/invoke/VarHandle" ∧ (parseMethodDescriptor y.desc).map (fun d => d.parameters.length) = some n) (hn : As.length = n) (hR : Fy + 1 ≤ F ∧ 8 + (nly + 11) + Ly ≤ L) (hst : (st.map fun v => v.category).sum ≤ 8) (hs0 : st0 = As.reverse ++ rv (zx x) b :: st) (hd : decode cc pc = .ok (.invokevirtual index, 3)) (g : xc h b = ci)
    (kk : ∀ r h1, J x (cc, own, nm, ret, F, L, nl) (YK K) (pc + 3) lv ((K2 r).toList ++ st) h1 (k r h1)) : J x (cc, own, nm, ret, F, L, nl) (YK K) pc lv st0 h (BX f1 k) := by
  obtain ⟨k1, k2, -⟩ := kc
  refine J.callsY hct hM (fun p l e R s m args below meth c w H locs cells slots ls r1 h1 hz hx hb hml hown hts hF hL hK hH hls g1 g2 hMet hpre => ?_) kk
  obtain ⟨n0, n1⟩ := hH.pos (a := b) (by omega)
  obtain ⟨k0, -, hk0⟩ := pw_get (z := w.1) (cy := w.2.2.1) n1 (by omega : xc h b < 23)
  rw [ce_obj g k1] at hk0
  have hrv : rv (zx x) b = .ref (w.1 + b) := by rw [← hz]; exact rv_pos n0
  rw [hrv] at hMet hpre hs0 ⊢
  have hcw := cwV (own := own) (index := index) (R := R) (rm := { frames := Fy, cells := xn h1 - xn h, slots := xs h1 - xs h, locals := Ly }) n hts (wg_ok (big := WG) (ws := wsV own index Cn y (Cond.code y cy nly rety :: WG)) (fun _ h => h) (fun q hq => by
    rcases List.mem_append.mp hq with hq | hq
    · simp only [List.mem_cons, List.not_mem_nil, or_false] at hq
      rcases hq with rfl | rfl | rfl | rfl
      · exact hlk
      · exact hin
      · exact hse
      · exact hini
    · rcases List.mem_cons.mp hq with rfl | hq
      · exact hcd
      · exact hq)) rfl rfl rfl hy (by rw [hF, hL]; exact hR)
  exact vy_runV (As := As) (rest := st) (C := Cn) (b := w.1 + b) ⟨hx, hb, hml, hown, hts⟩ hMet hcw ⟨blind_Pcx, va_recv hK.1 hH.2.2.2.2 k2 hk0, hpre⟩ rfl hn hls hs0 (lv_room hst) hd ⟨g1, g2⟩
end EXC
