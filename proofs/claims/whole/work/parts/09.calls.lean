/-! calls -/
section CALLS
theorem blind_Pcx {w : WT} {av : List Value} {h : AH} : FrameBlind (Pcx w av h) := fun a U g mk q => ⟨q.1, q.2.1, q.2.2.1, Kx.same (u := U) (U := U.calling g mk a) rfl q.2.2.2.1, SK.moved (u := U) (U := U.calling g mk a) (Vm.Alike.refl U.vm) q.2.2.2.2⟩
theorem pre_Pcx {w : WT} {av : List Value} {h : AH} {s : State} {H : Heap} {locs : List Loc} (hsz : H.size = w.1 + xn h) (hH : HR w h H) (hS : va_S (fz w) s.heap H locs) (hK : Kx w s) (hSK : SK w s s.heap) : ∀ U : State, U.heap = H → s.WarmedH U.vm → Pcx w av h av.toArray U := by
  intro U hU hW
  refine ⟨rfl, by rw [hU]; exact hsz, by rw [hU]; exact hH, hK.warm hW, ?_⟩
  rw [hU]
  exact (hSK.kept hS.2.1).moved hW.alike
theorem WR {p : Program} {l : Launch} {e : Env} {R : Room} {s : State} {m : MethodId} {args : Array Value} {below : List Frame} {meth : Method} {c : Code} {H : Heap} {locs : List Loc} {cells slots mc ms : Nat} {Q : State → Prop} {w : WT} {β : Type} {K2 : β → Option Value} {r : β} {h1 : AH} {a : Array Value} {pc : Nat} {ls : Array Slot} {st0 rest : List Value}
    (hr : va_Run p l e R s m args below meth c H locs cells slots mc ms (F0 m pc ls st0) rest (Qx w K2 r h1 a) (fz w)) (hS : va_S (fz w) s.heap H locs)
    (kk : ∀ (H1 : Heap) (locs1 : List Loc), HR w h1 H1 → va_S (fz w) s.heap H1 locs1 → W p l e R s m args below meth c H1 locs1 (cells + mc) (slots + ms) Q (F0 m (pc + 3) ls ((K2 r).toList ++ rest))) : W p l e R s m args below meth c H locs cells slots Q (F0 m pc ls st0) := by
  intro T hT X
  obtain ⟨v, st₀, t, T', L, h0, X', hL, e1, e2, ⟨hv, hH, hz, hk⟩, st⟩ := hr T hT X
  cases hv
  rw [h0] at hz hk
  obtain ⟨t2, a1, b1⟩ := kk T'.heap (locs ++ L) (by rw [e1]; exact hH)
    ⟨Nat.le_trans hS.1 (by rw [e1]; exact hz), fun q h1 h2 => by rw [e1, hk q (Nat.lt_of_lt_of_le h1 hS.1) h2]; exact hS.2.1 q h1 h2, fun q hq => by
      rcases List.mem_append.mp hq with h | h
      · exact hS.2.2 q h
      · exact hL q h⟩ T' rfl X'
  exact ⟨t2, st t2 a1, b1⟩
variable {x : CT} {α β : Type} {K : CT → α → AH → State → Prop} {cc : ByteArray} {own nm : String} {ret : Option FieldType} {F L nl : Nat} {pc : Nat} {lv lv' : List (Nat × Value)} {st st0 : List Value} {h : AH} {f : Option (α × AH)} {f1 : Option (β × AH)} {k : β → AH → Option (α × AH)} {K2 : β → Option Value} {y : MethodName} {cy : ByteArray} {nly Fy Ly : Nat} {rety : Option FieldType}
theorem J.calls {av : List Value} (hM : CM (lx x) (wx x) y cy nly rety Fy Ly K2 av h f1)
    (hrun : ∀ (p : Program) (l : Launch) (e : Env) (R : Room) (s : State) (m : MethodId) (args : Array Value) (below : List Frame) (meth : Method) (c : Code) (w : WT) (H : Heap) (locs : List Loc) (cells slots : Nat) (ls : Array Slot) (r1 : β) (h1 : AH), w.1 = zx x → p.tables.exec = Jvm.exec → c.code = cc → c.maxLocals = nl → s.vm.findClass own = some m.cls → (∀ q ∈ WG, q.before args s = true) → R.frames = F → R.locals = L → Kx w s → HR w h H → ls.size = nl → cells + (xn h1 - xn h) ≤ R.cells → slots + (xs h1 - xs h) ≤ R.slots →
      Met l y (Cond.code y cy nly rety :: WG) { frames := Fy, cells := xn h1 - xn h, slots := xs h1 - xs h, locals := Ly } (Pcx w av h) (Qx w K2 r1 h1) (xn h1 - xn h) (xs h1 - xs h) (fz w) → (∀ U : State, U.heap = H → s.WarmedH U.vm → Pcx w av h av.toArray U) →
      va_Run p l e R s m args below meth c H locs cells slots (xn h1 - xn h) (xs h1 - xs h) (F0 m pc ls st0) st (Qx w K2 r1 h1 av.toArray) (fz w))
    (kk : ∀ r h1, J x (cc, own, nm, ret, F, L, nl) K (pc + 3) lv ((K2 r).toList ++ st) h1 (k r h1)) : J x (cc, own, nm, ret, F, L, nl) K pc lv st0 h (BN f1 k) := by
  obtain ⟨p, l, e, R, s, m, args, below, meth, c, w, h0, nL⟩ := x
  intro r h' ef
  obtain ⟨a, h1, e1, ef⟩ := BN_some ef
  obtain ⟨mo, hMet⟩ := hM a h1 e1
  obtain ⟨m1, m2⟩ := mo (p, l, e, R, s, m, args, below, meth, c, w, h0, nL)
  obtain ⟨q1, q2⟩ := kk a h1 r h' ef
  refine ⟨⟨Nat.le_trans m1 q1.1, Nat.le_trans m2 q1.2⟩, fun C c1 c2 c3 c4 H locs ls hH hS hl => ?_⟩
  obtain ⟨hx, hb, hml, hown, hts, hlk, hr, hF, hL, rfl, hsz, hnm, hK, hSK⟩ := id C
  intro T hT X
  have hs1 := X.heapSize
  rw [hT] at hs1
  have hs2 : H.size = w.1 + xn h := by have := hH.1; omega
  have hMet := hMet hsz.2.2.2
  refine WR (hrun p l e R s m args below meth c w H locs _ _ ls a h1 rfl hx hb hml hown hts hF hL hK hH hl.1 (by omega) (by omega) hMet (pre_Pcx hs2 hH hS hK hSK)) hS (fun H1 locs1 hH1 hS1 => ?_) T hT X
  refine W.cs ?_ ?_ (q2 C c1 c2 (by omega) (by omega) H1 locs1 ls hH1 hS1 hl)
  · omega
  · omega
theorem J.calls2 {av : List Value} (hM : CM (lx x) (wx x) y cy nly rety Fy Ly K2 av h f1)
    (hrun : ∀ (p : Program) (l : Launch) (e : Env) (R : Room) (s : State) (m : MethodId) (args : Array Value) (below : List Frame) (meth : Method) (c : Code) (w : WT) (H : Heap) (locs : List Loc) (cells slots : Nat) (ls : Array Slot) (r1 : β) (h1 : AH), w = wx x → p.tables.exec = Jvm.exec → c.code = cc → c.maxLocals = nl → s.vm.findClass own = some m.cls → (∀ q ∈ WG, q.before args s = true) → R.frames = F → R.locals = L → Kx w s → HR w h H → ls.size = nl → cells + (xn h1 - xn h) ≤ R.cells → slots + (xs h1 - xs h) ≤ R.slots →
      Met l y (Cond.code y cy nly rety :: WG) { frames := Fy, cells := xn h1 - xn h, slots := xs h1 - xs h, locals := Ly } (Pcx w av h) (Qx w K2 r1 h1) (xn h1 - xn h) (xs h1 - xs h) (fz w) → (∀ U : State, U.heap = H → s.WarmedH U.vm → Pcx w av h av.toArray U) → SK w s s.heap → va_S (fz w) s.heap H locs →
      va_Run p l e R s m args below meth c H locs cells slots (xn h1 - xn h) (xs h1 - xs h) (F0 m pc ls st0) st (Qx w K2 r1 h1 av.toArray) (fz w))
    (kk : ∀ r h1, J x (cc, own, nm, ret, F, L, nl) K (pc + 3) lv ((K2 r).toList ++ st) h1 (k r h1)) : J x (cc, own, nm, ret, F, L, nl) K pc lv st0 h (BN f1 k) := by
  obtain ⟨p, l, e, R, s, m, args, below, meth, c, w, h0, nL⟩ := x
  intro r h' ef
  obtain ⟨a, h1, e1, ef⟩ := BN_some ef
  obtain ⟨mo, hMet⟩ := hM a h1 e1
  obtain ⟨m1, m2⟩ := mo (p, l, e, R, s, m, args, below, meth, c, w, h0, nL)
  obtain ⟨q1, q2⟩ := kk a h1 r h' ef
  refine ⟨⟨Nat.le_trans m1 q1.1, Nat.le_trans m2 q1.2⟩, fun C c1 c2 c3 c4 H locs ls hH hS hl => ?_⟩
  obtain ⟨hx, hb, hml, hown, hts, hlk, hr, hF, hL, rfl, hsz, hnm, hK, hSK⟩ := id C
  intro T hT X
  have hs1 := X.heapSize
  rw [hT] at hs1
  have hs2 : H.size = w.1 + xn h := by have := hH.1; omega
  have hMet := hMet hsz.2.2.2
  refine WR (hrun p l e R s m args below meth c w H locs _ _ ls a h1 rfl hx hb hml hown hts hF hL hK hH hl.1 (by omega) (by omega) hMet (pre_Pcx hs2 hH hS hK hSK) hSK hS) hS (fun H1 locs1 hH1 hS1 => ?_) T hT X
  refine W.cs ?_ ?_ (q2 C c1 c2 (by omega) (by omega) H1 locs1 ls hH1 hS1 hl)
  · omega
  · omega
theorem J.callV {b n index ci N : Nat} {As : List Value} {Cn : String} {T : u_T} {ty : Nat → FieldType} (kc : KC ci Cn T N ty) (hM : CM (lx x) (wx x) y cy nly rety Fy Ly K2 (rv (zx x) b :: As) h f1) (hcd : Cond.code y cy nly rety ∈ WG) (hlk : Cond.methodLink own index y ∈ WG) (hin : Cond.instanceMethod y ∈ WG) (hse : Cond.selects Cn y y ∈ WG) (hini : Cond.initialized Cn ∈ WG) (hy : y.cls = Cn ∧ y.cls ≠ "java/lang/invoke/MethodHandle" ∧ y.cls ≠ "java/lang/invoke/VarHandle" ∧ (parseMethodDescriptor y.desc).map (fun d => d.parameters.length) = some n) (hn : As.length = n) (hR : Fy + 1 ≤ F ∧ 8 + (nly + 11) + Ly ≤ L) (hst : (st.map fun v => v.category).sum ≤ 8) (hs0 : st0 = As.reverse ++ rv (zx x) b :: st) (hd : decode cc pc = .ok (.invokevirtual index, 3)) (g : xc h b = ci)
    (kk : ∀ r h1, J x (cc, own, nm, ret, F, L, nl) K (pc + 3) lv ((K2 r).toList ++ st) h1 (k r h1)) : J x (cc, own, nm, ret, F, L, nl) K pc lv st0 h (BN f1 k) := by
  obtain ⟨k1, k2, -⟩ := kc
  refine J.calls hM (fun p l e R s m args below meth c w H locs cells slots ls r1 h1 hz hx hb hml hown hts hF hL hK hH hls g1 g2 hMet hpre => ?_) kk
  obtain ⟨n0, n1⟩ := hH.pos (a := b) (by omega)
  obtain ⟨k0, -, hk0⟩ := pw_get (z := w.1) (cy := w.2.2.1) n1 (by omega : xc h b < 23)
  rw [ce_obj g k1] at hk0
  have hrv : rv (zx x) b = .ref (w.1 + b) := by rw [← hz]; exact rv_pos n0
  rw [hrv] at hMet hpre hs0 ⊢
  have hcw := cwV (own := own) (index := index) (R := R) (rm := { frames := Fy, cells := xn h1 - xn h, slots := xs h1 - xs h, locals := Ly }) n hts (wg_ok (big := WG) (ws := wsV own index Cn y (Cond.code y cy nly rety :: WG)) (fun _ h => h) (fun q hq => by
    rcases List.mem_append.mp hq with hq | hq
    · simp only [List.mem_cons, List.not_mem_nil, or_false] at hq
      rcases hq with rfl | rfl | rfl | rfl
      · exact hlk
      · exact hin
      · exact hse
      · exact hini
    · rcases List.mem_cons.mp hq with rfl | hq
      · exact hcd
      · exact hq)) rfl rfl rfl hy (by rw [hF, hL]; exact hR)
  exact va_runV (As := As) (rest := st) (C := Cn) (b := w.1 + b) ⟨hx, hb, hml, hown, hts⟩ hMet hcw ⟨blind_Pcx, va_recv hK.1 hH.2.2.2.2 k2 hk0, hpre⟩ rfl hn hls hs0 (lv_room hst) hd ⟨g1, g2⟩
theorem J.callS {n index : Nat} {As : List Value} (hM : CM (lx x) (wx x) y cy nly rety Fy Ly K2 As h f1) (hcd : Cond.code y cy nly rety ∈ WG) (hlk : Cond.methodLink own index y ∈ WG) (hstt : Cond.static y ∈ WG) (hini : Cond.initialized y.cls ∈ WG) (hy : y.cls ≠ "java/lang/invoke/MethodHandle" ∧ y.cls ≠ "java/lang/invoke/VarHandle" ∧ (parseMethodDescriptor y.desc).map (fun d => d.parameters.length) = some n) (hn : As.length = n) (hR : Fy + 1 ≤ F ∧ 8 + (nly + 11) + Ly ≤ L) (hst : (st.map fun v => v.category).sum ≤ 8) (hs0 : st0 = As.reverse ++ st) (hd : decode cc pc = .ok (.invokestatic index, 3))
    (kk : ∀ r h1, J x (cc, own, nm, ret, F, L, nl) K (pc + 3) lv ((K2 r).toList ++ st) h1 (k r h1)) : J x (cc, own, nm, ret, F, L, nl) K pc lv st0 h (BN f1 k) := by
  refine J.calls hM (fun p l e R s m args below meth c w H locs cells slots ls r1 h1 hz hx hb hml hown hts hF hL hK hH hls g1 g2 hMet hpre => ?_) kk
  have hgd : GoodIn WG (Cond.code y cy nly rety :: WG) := wg_ok (big := WG) (fun _ h => h) (fun q hq => by
    rcases List.mem_cons.mp hq with rfl | hq
    · exact hcd
    · exact hq)
  have hcw := callB_of (own := own) (index := index) (R := R) (rm := { frames := Fy, cells := xn h1 - xn h, slots := xs h1 - xs h, locals := Ly }) n hts hgd rfl rfl rfl (hts _ hini) (hts _ hlk) hy (by rw [hF, hL]; exact hR)
  exact va_runS (As := As) (rest := st) ⟨hx, hb, hml, hown, hts⟩ hMet ⟨hcw, hts _ hstt⟩ ⟨blind_Pcx, hpre⟩ rfl hn hls hs0 (lv_room hst) hd ⟨g1, g2⟩
theorem J.callI {b n index : Nat} {As : List Value} (hM : CM (lx x) (wx x) y cy nly none Fy Ly K2 (rv (zx x) b :: As) h f1) (hcd : Cond.code y cy nly none ∈ WG) (hlk : Cond.methodLink own index y ∈ WG) (hin : Cond.instanceMethod y ∈ WG) (hini : Cond.initialized y.cls ∈ WG) (hy : y.name = "<init>" ∧ y.cls ≠ "java/lang/invoke/MethodHandle" ∧ y.cls ≠ "java/lang/invoke/VarHandle" ∧ (parseMethodDescriptor y.desc).map (fun d => d.parameters.length) = some n) (hn : As.length = n) (hR : Fy + 1 ≤ F ∧ 8 + (nly + 11) + Ly ≤ L) (hst : (st.map fun v => v.category).sum ≤ 8) (hs0 : st0 = As.reverse ++ rv (zx x) b :: st) (hd : decode cc pc = .ok (.invokespecial index, 3)) (g : xc h b ≠ 99)
    (kk : ∀ r h1, J x (cc, own, nm, ret, F, L, nl) K (pc + 3) lv ((K2 r).toList ++ st) h1 (k r h1)) : J x (cc, own, nm, ret, F, L, nl) K pc lv st0 h (BN f1 k) := by
  refine J.calls hM (fun p l e R s m args below meth c w H locs cells slots ls r1 h1 hz hx hb hml hown hts hF hL hK hH hls g1 g2 hMet hpre => ?_) kk
  obtain ⟨n0, n1⟩ := hH.pos (a := b) g
  have hrv : rv (zx x) b = .ref (w.1 + b) := by rw [← hz]; exact rv_pos n0
  rw [hrv] at hMet hpre hs0 ⊢
  have hgd : GoodIn WG (Cond.code y cy nly none :: WG) := wg_ok (big := WG) (fun _ h => h) (fun q hq => by
    rcases List.mem_cons.mp hq with rfl | hq
    · exact hcd
    · exact hq)
  have hcw := cwI (own := own) (index := index) (R := R) (rm := { frames := Fy, cells := xn h1 - xn h, slots := xs h1 - xs h, locals := Ly }) n hts hgd rfl rfl rfl (hts _ hini) (hts _ hlk) (hts _ hin) hy.1 hy.2 (by rw [hF, hL]; exact hR)
  exact va_runI (As := As) (rest := st) (b := w.1 + b) ⟨hx, hb, hml, hown, hts⟩ hMet hcw ⟨blind_Pcx, hpre⟩ rfl hn hls hs0 (lv_room hst) hd ⟨g1, g2⟩
theorem J.callVN {b n index ci N : Nat} {As : List Value} {Cn : String} {host : String} {T : u_T} {ty : Nat → FieldType} (kc : KC ci Cn T N ty) (hM : CM (lx x) (wx x) y cy nly rety Fy Ly K2 (rv (zx x) b :: As) h f1) (hcd : Cond.code y cy nly rety ∈ WG) (hlk : Cond.methodLinkNest own index y host ∈ nestW) (hin : Cond.instanceMethod y ∈ WG) (hse : Cond.selects Cn y y ∈ WG) (hini : Cond.initialized Cn ∈ WG) (hy : y.cls = Cn ∧ y.cls ≠ "java/lang/invoke/MethodHandle" ∧ y.cls ≠ "java/lang/invoke/VarHandle" ∧ (parseMethodDescriptor y.desc).map (fun d => d.parameters.length) = some n) (hn : As.length = n) (hR : Fy + 1 ≤ F ∧ 8 + (nly + 11) + Ly ≤ L) (hst : (st.map fun v => v.category).sum ≤ 8) (hs0 : st0 = As.reverse ++ rv (zx x) b :: st) (hd : decode cc pc = .ok (.invokevirtual index, 3)) (g : xc h b = ci)
    (kk : ∀ r h1, J x (cc, own, nm, ret, F, L, nl) K (pc + 3) lv ((K2 r).toList ++ st) h1 (k r h1)) : J x (cc, own, nm, ret, F, L, nl) K pc lv st0 h (BN f1 k) := by
  obtain ⟨k1, k2, -⟩ := kc
  refine J.calls hM (fun p l e R s m args below meth c w H locs cells slots ls r1 h1 hz hx hb hml hown hts hF hL hK hH hls g1 g2 hMet hpre => ?_) kk
  obtain ⟨n0, n1⟩ := hH.pos (a := b) (by omega)
  obtain ⟨k0, -, hk0⟩ := pw_get (z := w.1) (cy := w.2.2.1) n1 (by omega : xc h b < 23)
  rw [ce_obj g k1] at hk0
  have hrv : rv (zx x) b = .ref (w.1 + b) := by rw [← hz]; exact rv_pos n0
  rw [hrv] at hMet hpre hs0 ⊢
  have hcw := va_cnB (own := own) (index := index) (host := host) (R := R) (rm := { frames := Fy, cells := xn h1 - xn h, slots := xs h1 - xs h, locals := Ly }) n hts (wg_ok (big := WG) (ws := Cond.code y cy nly rety :: WG) (fun _ h => h) (fun q hq => by
    rcases List.mem_cons.mp hq with rfl | hq
    · exact hcd
    · exact hq)) rfl rfl rfl (hK.2.1 _ hlk) (hts _ (by rw [hy.1]; exact hini)) hy.2 (by rw [hF, hL]; exact hR)
  exact va_runVN (As := As) (rest := st) (C := Cn) (b := w.1 + b) ⟨hx, hb, hml, hown, hts⟩ hMet ⟨hcw, hts _ hin, hts _ hse⟩ ⟨blind_Pcx, va_recv hK.1 hH.2.2.2.2 k2 hk0, hpre⟩ rfl hn hls hs0 (lv_room hst) hd ⟨g1, g2⟩
theorem J.callSN {n index : Nat} {As : List Value} {host : String} (hM : CM (lx x) (wx x) y cy nly rety Fy Ly K2 As h f1) (hcd : Cond.code y cy nly rety ∈ WG) (hlk : Cond.methodLinkNest own index y host ∈ nestW) (hstt : Cond.static y ∈ WG) (hini : Cond.initialized y.cls ∈ WG) (hy : y.cls ≠ "java/lang/invoke/MethodHandle" ∧ y.cls ≠ "java/lang/invoke/VarHandle" ∧ (parseMethodDescriptor y.desc).map (fun d => d.parameters.length) = some n) (hn : As.length = n) (hR : Fy + 1 ≤ F ∧ 8 + (nly + 11) + Ly ≤ L) (hst : (st.map fun v => v.category).sum ≤ 8) (hs0 : st0 = As.reverse ++ st) (hd : decode cc pc = .ok (.invokestatic index, 3))
    (kk : ∀ r h1, J x (cc, own, nm, ret, F, L, nl) K (pc + 3) lv ((K2 r).toList ++ st) h1 (k r h1)) : J x (cc, own, nm, ret, F, L, nl) K pc lv st0 h (BN f1 k) := by
  refine J.calls hM (fun p l e R s m args below meth c w H locs cells slots ls r1 h1 hz hx hb hml hown hts hF hL hK hH hls g1 g2 hMet hpre => ?_) kk
  have hgd : GoodIn WG (Cond.code y cy nly rety :: WG) := wg_ok (big := WG) (fun _ h => h) (fun q hq => by
    rcases List.mem_cons.mp hq with rfl | hq
    · exact hcd
    · exact hq)
  have hcw := va_cnB (own := own) (index := index) (host := host) (R := R) (rm := { frames := Fy, cells := xn h1 - xn h, slots := xs h1 - xs h, locals := Ly }) n hts hgd rfl rfl rfl (hK.2.1 _ hlk) (hts _ hini) hy (by rw [hF, hL]; exact hR)
  exact va_runSN (As := As) (rest := st) ⟨hx, hb, hml, hown, hts⟩ hMet ⟨hcw, hts _ hstt, trivial⟩ ⟨blind_Pcx, hpre⟩ rfl hn hls hs0 (lv_room hst) hd ⟨g1, g2⟩
theorem J.callIN {b n index : Nat} {As : List Value} {host : String} (hM : CM (lx x) (wx x) y cy nly none Fy Ly K2 (rv (zx x) b :: As) h f1) (hcd : Cond.code y cy nly none ∈ WG) (hlk : Cond.methodLinkNest own index y host ∈ nestW) (hin : Cond.instanceMethod y ∈ WG) (hini : Cond.initialized y.cls ∈ WG) (hy : y.name = "<init>" ∧ y.cls ≠ "java/lang/invoke/MethodHandle" ∧ y.cls ≠ "java/lang/invoke/VarHandle" ∧ (parseMethodDescriptor y.desc).map (fun d => d.parameters.length) = some n) (hn : As.length = n) (hR : Fy + 1 ≤ F ∧ 8 + (nly + 11) + Ly ≤ L) (hst : (st.map fun v => v.category).sum ≤ 8) (hs0 : st0 = As.reverse ++ rv (zx x) b :: st) (hd : decode cc pc = .ok (.invokespecial index, 3)) (g : xc h b ≠ 99)
    (kk : ∀ r h1, J x (cc, own, nm, ret, F, L, nl) K (pc + 3) lv ((K2 r).toList ++ st) h1 (k r h1)) : J x (cc, own, nm, ret, F, L, nl) K pc lv st0 h (BN f1 k) := by
  refine J.calls hM (fun p l e R s m args below meth c w H locs cells slots ls r1 h1 hz hx hb hml hown hts hF hL hK hH hls g1 g2 hMet hpre => ?_) kk
  obtain ⟨n0, n1⟩ := hH.pos (a := b) g
  have hrv : rv (zx x) b = .ref (w.1 + b) := by rw [← hz]; exact rv_pos n0
  rw [hrv] at hMet hpre hs0 ⊢
  have hgd : GoodIn WG (Cond.code y cy nly none :: WG) := wg_ok (big := WG) (fun _ h => h) (fun q hq => by
    rcases List.mem_cons.mp hq with rfl | hq
    · exact hcd
    · exact hq)
  have hcw := va_cnB (own := own) (index := index) (host := host) (R := R) (rm := { frames := Fy, cells := xn h1 - xn h, slots := xs h1 - xs h, locals := Ly }) n hts hgd rfl rfl rfl (hK.2.1 _ hlk) (hts _ hini) hy.2 (by rw [hF, hL]; exact hR)
  exact va_runIN (As := As) (rest := st) (b := w.1 + b) ⟨hx, hb, hml, hown, hts⟩ hMet ⟨hcw, hy.1, hts _ hin⟩ ⟨blind_Pcx, hpre⟩ rfl hn hls hs0 (lv_room hst) hd ⟨g1, g2⟩
theorem J_objInit {b index : Nat} (hlk : Cond.methodLink own index Lib.objectInit ∈ WG) (hin : Cond.instanceMethod Lib.objectInit ∈ WG) (hcd : Cond.code Lib.objectInit ⟨#[0xb1]⟩ 1 none ∈ WG) (hR : 1 ≤ F ∧ (st.map fun v => v.category).sum + 12 ≤ L) (hd : decode cc pc = .ok (.invokespecial index, 3)) (g : xc h b ≠ 99) (kk : J x (cc, own, nm, ret, F, L, nl) K (pc + 3) lv st h f) : J x (cc, own, nm, ret, F, L, nl) K pc lv (rv (zx x) b :: st) h f := by
  obtain ⟨p, l, e, R, s, m, args, below, meth, c, w, h0, nL⟩ := x
  intro r h' ef
  obtain ⟨q1, q2⟩ := kk r h' ef
  refine ⟨q1, fun C c1 c2 c3 c4 H locs ls hH hS hl => ?_⟩
  obtain ⟨hx, hb, hml, hown, hts, hlk2, hr, hF, hL, rfl, hsz, hnm, hK, hSK⟩ := id C
  obtain ⟨n0, n1⟩ := hH.pos (a := b) g
  show W p l e R s m args below meth c H locs _ _ _ (F0 m pc ls (rv w.1 b :: st))
  rw [rv_pos n0]
  exact W.objInit hx hb hown (hts _ hlk) (hts _ hin) (hts _ hcd) rfl (by rw [hml]; exact hl.1) rfl hd (by rw [hF]; exact hR.1) (by show 2 * 0 + _ + 12 ≤ _; rw [hL]; have := hR.2; omega) (q2 C c1 c2 c3 c4 H locs ls hH hS hl)
end CALLS
