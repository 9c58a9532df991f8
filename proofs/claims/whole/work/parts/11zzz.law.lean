section LAWROWS
variable {x : CT} {α β : Type} {K : CT → α → AH → State → Prop} {cc : ByteArray} {own nm : String} {ret' : Option FieldType} {F L nl : Nat} {pc : Nat} {lv lv' : List (Nat × Value)} {st st0 : List Value} {h : AH} {f : Option (α × AH)} {f1 : Option (β × AH)} {k : β → AH → Option (α × AH)} {K2 : β → Option Value} {y : MethodName} {cy : ByteArray} {nly Fy Ly : Nat} {rety : Option FieldType}
theorem J.callsH {hh : List (Nat × Nat × Nat × Nat)} {av : List Value} (hM : CH (lx x) (wx x) y cy nly rety hh Fy Ly K2 av h f1)
    (hrun : ∀ (p : Program) (l : Launch) (e : Env) (R : Room) (s : State) (m : MethodId) (args : Array Value) (below : List Frame) (meth : Method) (c : Code) (w : WT) (H : Heap) (locs : List Loc) (cells slots : Nat) (ls : Array Slot) (r1 : β) (h1 : AH), w.1 = zx x → p.tables.exec = Jvm.exec → c.code = cc → c.maxLocals = nl → s.vm.findClass own = some m.cls → (∀ q ∈ WG, q.before args s = true) → R.frames = F → R.locals = L → Kx w s → HR w h H → ls.size = nl → cells + (xn h1 - xn h) ≤ R.cells → slots + (xs h1 - xs h) ≤ R.slots →
      Met l y (Cond.codeWith y cy nly rety hh :: WG) { frames := Fy, cells := xn h1 - xn h, slots := xs h1 - xs h, locals := Ly } (Pcx w av h) (Qx w K2 r1 h1) (xn h1 - xn h) (xs h1 - xs h) (fz w) → (∀ U : State, U.heap = H → s.WarmedH U.vm → Pcx w av h av.toArray U) →
      va_Run p l e R s m args below meth c H locs cells slots (xn h1 - xn h) (xs h1 - xs h) (F0 m pc ls st0) st (Qx w K2 r1 h1 av.toArray) (fz w))
    (kk : ∀ r h1, J x (cc, own, nm, ret', F, L, nl) K (pc + 3) lv ((K2 r).toList ++ st) h1 (k r h1)) : J x (cc, own, nm, ret', F, L, nl) K pc lv st0 h (BN f1 k) := by
  obtain ⟨p, l, e, R, s, m, args, below, meth, c, w, h0, nL⟩ := x
  intro r h' ef
  obtain ⟨a, h1, e1, ef⟩ := BN_some ef
  obtain ⟨mo, hMet⟩ := hM a h1 e1
  obtain ⟨m1, m2⟩ := mo (p, l, e, R, s, m, args, below, meth, c, w, h0, nL)
  obtain ⟨q1, q2⟩ := kk a h1 r h' ef
  refine ⟨⟨Nat.le_trans m1 q1.1, Nat.le_trans m2 q1.2⟩, fun C c1 c2 c3 c4 H locs ls hH hS hl => ?_⟩
  obtain ⟨hx, hb, hml, hown, hts, hlk, hr, hF, hL, rfl, hsz, hnm, hK, hSK⟩ := id C
  intro T hT X
  have hs1 := X.heapSize
  rw [hT] at hs1
  have hs2 : H.size = w.1 + xn h := by have := hH.1; omega
  have hMet := hMet hsz.2.2.2
  refine WR (hrun p l e R s m args below meth c w H locs _ _ ls a h1 rfl hx hb hml hown hts hF hL hK hH hl.1 (by omega) (by omega) hMet (pre_Pcx hs2 hH hS hK hSK)) hS (fun H1 locs1 hH1 hS1 => ?_) T hT X
  refine W.cs ?_ ?_ (q2 C c1 c2 (by omega) (by omega) H1 locs1 ls hH1 hS1 hl)
  · omega
  · omega
theorem J.callVW {hh : List (Nat × Nat × Nat × Nat)} {b n index ci N : Nat} {As : List Value} {Cn : String} {T : u_T} {ty : Nat → FieldType} (kc : KC ci Cn T N ty) (hM : CH (lx x) (wx x) y cy nly rety hh Fy Ly K2 (rv (zx x) b :: As) h f1) (hcd : Cond.codeWith y cy nly rety hh ∈ WG) (hlk : Cond.methodLink own index y ∈ WG) (hin : Cond.instanceMethod y ∈ WG) (hse : Cond.selects Cn y y ∈ WG) (hini : Cond.initialized Cn ∈ WG) (hy : y.cls = Cn ∧ y.cls ≠ "java/lang/invoke/MethodHandle" ∧ y.cls ≠ "java/lang/invoke/VarHandle" ∧ (parseMethodDescriptor y.desc).map (fun d => d.parameters.length) = some n) (hn : As.length = n) (hR : Fy + 1 ≤ F ∧ 8 + (nly + 11) + Ly ≤ L) (hst : (st.map fun v => v.category).sum ≤ 8) (hs0 : st0 = As.reverse ++ rv (zx x) b :: st) (hd : decode cc pc = .ok (.invokevirtual index, 3)) (g : xc h b = ci)
    (kk : ∀ r h1, J x (cc, own, nm, ret', F, L, nl) K (pc + 3) lv ((K2 r).toList ++ st) h1 (k r h1)) : J x (cc, own, nm, ret', F, L, nl) K pc lv st0 h (BN f1 k) := by
  obtain ⟨k1, k2, -⟩ := kc
  refine J.callsH hM (fun p l e R s m args below meth c w H locs cells slots ls r1 h1 hz hx hb hml hown hts hF hL hK hH hls g1 g2 hMet hpre => ?_) kk
  obtain ⟨n0, n1⟩ := hH.pos (a := b) (by omega)
  obtain ⟨k0, -, hk0⟩ := pw_get (z := w.1) (cy := w.2.2.1) n1 (by omega : xc h b < 23)
  rw [ce_obj g k1] at hk0
  have hrv : rv (zx x) b = .ref (w.1 + b) := by rw [← hz]; exact rv_pos n0
  rw [hrv] at hMet hpre hs0 ⊢
  have hcw := vx_cwVW (own := own) (index := index) (R := R) (rm := { frames := Fy, cells := xn h1 - xn h, slots := xs h1 - xs h, locals := Ly }) n hts (wg_ok (big := WG) (ws := wsV own index Cn y (Cond.codeWith y cy nly rety hh :: WG)) (fun _ h => h) (fun q hq => by
    rcases List.mem_append.mp hq with hq | hq
    · simp only [List.mem_cons, List.not_mem_nil, or_false] at hq
      rcases hq with rfl | rfl | rfl | rfl
      · exact hlk
      · exact hin
      · exact hse
      · exact hini
    · rcases List.mem_cons.mp hq with rfl | hq
      · exact hcd
      · exact hq)) rfl rfl rfl hy (by rw [hF, hL]; exact hR)
  exact vx_runVW (As := As) (rest := st) (C := Cn) (b := w.1 + b) ⟨hx, hb, hml, hown, hts⟩ hMet hcw ⟨blind_Pcx, va_recv hK.1 hH.2.2.2.2 k2 hk0, hpre⟩ rfl hn hls hs0 (lv_room hst) hd ⟨g1, g2⟩
theorem J.callSW {hh : List (Nat × Nat × Nat × Nat)} {n index : Nat} {As : List Value} (hM : CH (lx x) (wx x) y cy nly rety hh Fy Ly K2 As h f1) (hcd : Cond.codeWith y cy nly rety hh ∈ WG) (hlk : Cond.methodLink own index y ∈ WG) (hstt : Cond.static y ∈ WG) (hini : Cond.initialized y.cls ∈ WG) (hy : y.cls ≠ "java/lang/invoke/MethodHandle" ∧ y.cls ≠ "java/lang/invoke/VarHandle" ∧ (parseMethodDescriptor y.desc).map (fun d => d.parameters.length) = some n) (hn : As.length = n) (hR : Fy + 1 ≤ F ∧ 8 + (nly + 11) + Ly ≤ L) (hst : (st.map fun v => v.category).sum ≤ 8) (hs0 : st0 = As.reverse ++ st) (hd : decode cc pc = .ok (.invokestatic index, 3))
    (kk : ∀ r h1, J x (cc, own, nm, ret', F, L, nl) K (pc + 3) lv ((K2 r).toList ++ st) h1 (k r h1)) : J x (cc, own, nm, ret', F, L, nl) K pc lv st0 h (BN f1 k) := by
  refine J.callsH hM (fun p l e R s m args below meth c w H locs cells slots ls r1 h1 hz hx hb hml hown hts hF hL hK hH hls g1 g2 hMet hpre => ?_) kk
  have hcw := vx_cwSW (own := own) (index := index) (R := R) (rm := { frames := Fy, cells := xn h1 - xn h, slots := xs h1 - xs h, locals := Ly }) n hts (wg_ok (big := WG) (ws := va_wsS own index y (Cond.codeWith y cy nly rety hh :: WG)) (fun _ h => h) (fun q hq => by
    rcases List.mem_append.mp hq with hq | hq
    · simp only [List.mem_cons, List.not_mem_nil, or_false] at hq
      rcases hq with rfl | rfl | rfl
      · exact hlk
      · exact hstt
      · exact hini
    · rcases List.mem_cons.mp hq with rfl | hq
      · exact hcd
      · exact hq)) rfl rfl rfl hy (by rw [hF, hL]; exact hR)
  exact vx_runSW (As := As) (rest := st) ⟨hx, hb, hml, hown, hts⟩ hMet hcw ⟨blind_Pcx, hpre⟩ rfl hn hls hs0 (lv_room hst) hd ⟨g1, g2⟩
def scv (w : WT) : Value := .ref (scb w)
theorem scv_is {w : WT} : scv w = .null ∨ ∃ q, scv w = .ref q := Or.inr ⟨_, rfl⟩
theorem cat_C {w : WT} : (scv w).category = 1 := rfl
theorem J_slen {Ls : Nat} (hLs : Ls = scL (wx x)) (hd : decode cc pc = .ok (.arraylength, 1)) (kk : J x (cc, own, nm, ret', F, L, nl) K (pc + 1) lv (.int (nI Ls) :: st) h f) : J x (cc, own, nm, ret', F, L, nl) K pc lv (scv (wx x) :: st) h f := by
  subst hLs
  refine J.looks (s1 := fun w => scv w :: st) (s2 := fun w => .int (nI (scL w)) :: st) (fun p l e R s m args below meth c w H locs cells slots Q ls hx hb hown hts hK hSK hS k => ?_) kk
  obtain ⟨hX, hbA⟩ := hSK.2.2.2.2.2
  exact va_slen hx hb hX (by obtain ⟨c, hc, -⟩ := hX; exact (Array.getElem?_eq_some_iff.mp hc).1) hbA hS hd k
theorem J_sld {Ls : Nat} {xs' : Nat → Int32} {i : Int32} (hxs : xs' = scx (wx x)) (hLs : Ls = scL (wx x)) (g : gx i Ls) (hd : decode cc pc = .ok (.iaload, 1)) (kk : J x (cc, own, nm, ret', F, L, nl) K (pc + 1) lv (.int (xs' i.toNatClampNeg) :: st) h f) : J x (cc, own, nm, ret', F, L, nl) K pc lv (.int i :: scv (wx x) :: st) h f := by
  obtain ⟨p, l, e, R, s, m, args, below, meth, c, w, h0, nL⟩ := x
  subst hLs
  subst hxs
  intro r h' ef
  obtain ⟨q1, q2⟩ := kk r h' ef
  refine ⟨q1, fun C c1 c2 c3 c4 H locs ls hH hS hl => ?_⟩
  obtain ⟨hx, hb, hml, hown, hts, hlk2, hr, hF, hL, rfl, hsz, hnm, hK, hSK⟩ := id C
  obtain ⟨hX, hbA⟩ := hSK.2.2.2.2.2
  exact va_sld hx hb hX (by obtain ⟨c, hc, -⟩ := hX; exact (Array.getElem?_eq_some_iff.mp hc).1) hbA hS g hd (q2 C c1 c2 c3 c4 H locs ls hH hS hl)
end LAWROWS
/-! THE CLAIM OUT OF ONE WALK OF THE LAW'S BODY. Your part is whole_start (and what it stands on); all else here is the same for every law, but numbers. -/
def R_law : String := "FallTrialsLaw"
def lw_P (b : Addr) (xs : List Int32) (args : Array Value) (s : State) : Prop := args = #[.ref b] ∧ s.IntsAt b xs ∧ xs.length ≤ 3072 ∧ (Jvm.Cond.and given_1 narrow_1).before args s = true
def lw_Q (_ : Array Value) (s : State) (o : Outcome) (t : State) : Prop := o = .returned (some (.int 1)) ∧ Framed s o t [] 601024 7293034
def lw_Z (below : List Frame) (a : Array Value) (s : State) : State → Prop := fun t => ∃ o, t.status = .running ∧ Ended t below o ∧ lw_Q a s o t
/-- the law's own end, with 1 on the stack, nothing written that was there before, its room as the claim has it -/
theorem lw_ret {p : Program} {l : Launch} {e : Env} {s : State} {m : MethodId} {below : List Frame} {meth : Method} {c : Code} {b : Nat} (hx : p.tables.exec = Jvm.exec) (hb : c.code = code) (hr : meth.sig.returnType = ret) (hlocks : meth.locks = false) {pc : Nat} {H : Heap} {ls : Array Slot} (hdg : decode code pc = .ok (.ireturn, 1)) : W p l e room_1 s m #[Value.ref b] below meth c H [] 601024 7293034 (lw_Z below #[Value.ref b] s) (F0 m pc ls [.int 1]) := by
  intro T hT X
  obtain ⟨fs, hret, hrun, hended, hW, hframe⟩ := X.leave (v := some (.int 1)) (hlocks := hlocks) (fun h => by rw [hr] at h; cases h)
  have hmeth' : T.vm.method? m = some meth := X.method'
  refine ⟨T.setFrames fs, ?_, .returned (some (.int 1)), hrun, hended, rfl, ⟨_, rfl⟩, hW, hframe⟩
  jvm_step X.here [X.here.top, hx, hb, hdg, hmeth', hr, ret, narrow_b1]
  (try refine ⟨rfl, ?_⟩); (try refine ⟨rfl, ?_⟩)
  first | (intro acts; rw [hret _ acts rfl rfl rfl]) | rw [hret _ _ rfl rfl rfl]
  exact Steps.refl _
/-- what holds at the law's entry: the machine, the code, the tables' words (any of lw_tbl by 'hts w (by decide +kernel)'), the script of L ints xs at the cell b, what the Statement gives of the start (any of its parts by flat_of_before) -/
def lw_At (p : Program) (s : State) (m : MethodId) (meth : Method) (c : Code) (b L : Nat) (xs : Nat → Int32) : Prop :=
  p.tables.exec = Jvm.exec ∧ c.code = code ∧ meth.sig.returnType = ret ∧ c.maxLocals = 7 ∧ s.vm.findClass R_law = some m.cls ∧ (∀ w ∈ lw_tbl, w.before #[Value.ref b] s = true) ∧ va_X b L xs s s.heap ∧ b < s.heap.size ∧ meth.locks = false ∧ (Jvm.Cond.and given_1 narrow_1).before #[Value.ref b] s = true
/-- the law's end: with 1 it is as the claim asks -/
def Zlaw : CT → Int32 → AH → State → Prop := fun x r h' t => match x with
  | (p, l, e, R, s, m, args, below, meth, c, w, h0, nL) => (r = 1 ∧ R = room_1 ∧ args = #[Value.ref (scb w)] ∧ xn h0 = 1) → lw_Z below args s t
theorem J_lawret {x : CT} {nm : String} {F L nl pc : Nat} {lv : List (Nat × Value)} {h : AH} {v : Int32} (hd : decode code pc = .ok (.ireturn, 1)) : J x (code, RL, nm, ret, F, L, nl) Zlaw pc lv [.int v] h (some (v, h)) := by
  obtain ⟨p, l, e, R, s, m, args, below, meth, c, w, h0, nL⟩ := x
  intro r h' ef
  cases ef
  refine ⟨⟨Nat.le_refl _, Nat.le_refl _⟩, fun C c1 c2 c3 c4 H locs ls hH hS hl => ?_⟩
  obtain ⟨hx, hb, hml, hown, hts, hlk, hr, hF, hL, rfl, hsz, hnm, hK, hSK⟩ := id C
  by_cases hq : v = 1 ∧ R = room_1 ∧ args = #[Value.ref (scb w)] ∧ xn h0 = 1
  · obtain ⟨rfl, rfl, rfl, hn1⟩ := hq
    refine W.widen (k := 601024) (n := 7293034) c1 c2 ?_
    refine va_forget (fun q hq => by have := hS.2.2 q hq; have h2 : w.1 < q.base := this; omega) ?_
    intro T hT X
    obtain ⟨t, a1, b1⟩ := lw_ret hx hb hr hlk hd T hT X
    exact ⟨t, a1, fun _ => b1⟩
  · intro T hT X
    exact ⟨_, Steps.refl _, fun z => absurd z hq⟩
