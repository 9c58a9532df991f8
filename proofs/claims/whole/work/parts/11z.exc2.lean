section EXC2
variable {x : CT} {α β : Type} {cc : ByteArray} {own nm : String} {ret : Option FieldType} {F L nl : Nat} {pc : Nat} {lv : List (Nat × Value)} {st st0 : List Value} {h : AH} {y : MethodName} {cy : ByteArray} {nly Fy Ly : Nat} {rety : Option FieldType}
def nseN : List String := ["java/lang/RuntimeException", "java/lang/Exception"]
theorem nse_words : ((vx_at0 RX11 192 NSE nseN).all fun w => decide (w ∈ lw_tbl) && goodWord w || decide (w ∈ nestW)) = true := by decide +kernel
theorem nse_good : ((Cond.classLink RX11 190 NSE :: Cond.initialized NSE :: vx_at0 RX11 192 NSE nseN).all fun w => vx_ot w) = true := by decide +kernel
theorem J_throwN {K : α → Option Value} (hct : catT RX11 nm = none) (hR : 5 < F ∧ (st.map fun v => v.category).sum + 81 ≤ L) (d0 : decode cc pc = .ok (.new 190, 3)) (d3 : decode cc (pc + 3) = .ok (.dup, 1)) (d4 : decode cc (pc + 4) = .ok (.invokespecial 192, 3)) (d7 : decode cc (pc + 7) = .ok (.athrow, 1)) : J x (cc, RX11, nm, ret, F, L, nl) (YK K) pc lv st h (some (.inr (xn h), pN h 99 6)) := by
  obtain ⟨p, l, e, R, s, m, args, below, meth, c, w, h0, nL⟩ := x
  intro r h' ef
  cases ef
  refine ⟨⟨by rw [xn_pN]; omega, by rw [xs_pN]; omega⟩, fun C c1 c2 c3 c4 H locs ls hH hS hl => ?_⟩
  obtain ⟨hx, hb, hml, hown, hts, hlk, hr, hF, hL, rfl, hsz, hnm, hK, hSK⟩ := id C
  rw [xn_pN] at c1
  rw [xs_pN] at c2
  intro T hT X
  have hs1 := X.heapSize
  rw [hT] at hs1
  have hs2 : H.size = w.1 + xn h := by have := hH.1; omega
  refine vy_throw0 (A := fz w) (own := RX11) (cls := NSE) (names := nseN) (ik := 190) (ic := 192) hx hb hsz.2.2.2 hown (by decide +kernel) (by decide +kernel) (hts _ kw_6_65) (hts _ kw_1_26) (fun q hq => ?_) (fun q hq => List.all_eq_true.mp nse_good q hq) hSK.2.2.2.1 hSK.2.2.2.2.1 hS (by rw [hml]; exact hl.1) d0 d3 d4 d7 (no_table hsz.2.2.1 hct (pc + 7)) (by rw [hF]; exact hR.1) (by rw [hL]; exact hR.2) (by omega) (by omega) hlk (fun t ha hlt hk => ?_) hS.2.2 (by omega) (by omega) T hT X
  · have h2 := List.all_eq_true.mp nse_words q hq
    simp only [Bool.or_eq_true, Bool.and_eq_true, decide_eq_true_eq] at h2
    rcases h2 with h2 | h2
    · exact hts _ (wg_in h2.1 h2.2)
    · exact va_Nw.use (nestW_on q h2) (hK.2.1 q h2)
  · refine ⟨xn h, rfl, by have := hH.2.1; omega, hs2, Or.inr ⟨rfl, by rw [xc_pN, if_pos rfl]⟩, ⟨by rw [xn_pN]; omega, by rw [xn_pN]; omega, ?_, fun a ha => ?_, ?_⟩, ⟨by have := hS.1; omega, fun q a b => (hk q (Nat.lt_of_lt_of_le a hS.1)).trans (hS.2.1 q a b)⟩⟩
    · rw [xc_pN, if_neg (by have := hH.2.1; omega)]; exact hH.2.2.1
    · rw [xn_pN] at ha
      rw [xc_pN, if_neg (by omega)]; exact hH.2.2.2.1 a (by omega)
    · rw [pw_skip (by decide)]
      exact hH.2.2.2.2.kept (fun k q hq => hk q.1 ((hH.2.2.2.2 k q hq).lt))
/-- a contract of a method with a table -/
def CH (l : Launch) (w : WT) (y : MethodName) (cy : ByteArray) (nl : Nat) (ret : Option FieldType) (hh : List (Nat × Nat × Nat × Nat)) (F L : Nat) {β : Type} (K : β → Option Value) (av : List Value) (h : AH) (f : Option (β × AH)) : Prop :=
  ∀ (r : β) (h' : AH), f = some (r, h') → (CT → xn h ≤ xn h' ∧ xs h ≤ xs h') ∧ (l.stackTraces = false → Met l y (Cond.codeWith y cy nl ret hh :: WG) { frames := F, cells := xn h' - xn h, slots := xs h' - xs h, locals := L } (Pcx w av h) (Qx w K r h') (xn h' - xn h) (xs h' - xs h) (fz w))
theorem CH.of {l : Launch} {w : WT} {hh : List (Nat × Nat × Nat × Nat)} {K : β → Option Value} {av : List Value} {f : Option (β × AH)} (hy : plainName y.cls = true ∧ catT y.cls y.name = some hh) (hlen : (lg_sl av).length ≤ nl) (hlv : lv_args 0 av = lv)
    (body : ∀ x : CT, wx x = w → J x (cy, y.cls, y.name, ret, F, L, nl) (ZK K) 0 lv [] h f) : CH l w y cy nl ret hh F L K av h f := by
  intro r h' ef
  refine ⟨fun x => ?_, fun htr => ?_⟩
  · obtain ⟨p, l, e, R, s, m, args, below, meth, c, w2, h0, nL⟩ := x
    exact (body (p, l, e, R, s, m, args, below, meth, c, w, h0, nL) rfl r h' ef).1
  refine va_MetW (cc := cy) (maxL := nl) (ret := ret) (hh := hh) hy.1 rfl ?_
  intro p e s m args below meth c s₁ B hml hv
  obtain ⟨rfl, hsz, hH, hK, hSK⟩ := hv
  have hts := atoms_spec (ws := Cond.codeWith y cy nl ret hh :: WG) B.pre
  have htab : tabT y.cls y.name c := by
    unfold tabT
    rw [hy.2]
    exact vx_table (x := y) B (hts _ List.mem_cons_self)
  have C : Cx (p, l, e, { frames := F, cells := xn h' - xn h, slots := xs h' - xs h, locals := L }, s, m, av.toArray, below, meth, c, w, h, nl) (cy, y.cls, y.name, ret, F, L, nl) := ⟨B.exec, B.bytes, hml, findClass_of_methodNamed B.named, fun q hq => hts q (List.mem_cons_of_mem _ hq), B.notSynchronized, B.returns, rfl, rfl, rfl, ⟨hsz, hH.2.1, htab, htr⟩, (name_of_methodNamed B.named B.method).1, hK, hSK⟩
  have q := (body (p, l, e, { frames := F, cells := xn h' - xn h, slots := xs h' - xs h, locals := L }, s, m, av.toArray, below, meth, c, w, h, nl) rfl r h' ef).2 C (Nat.le_refl _) (Nat.le_refl _) (Nat.le_refl _) (Nat.le_refl _) s.heap []
  rw [lg_entry_eq]
  have hl := lv_entry av (n := nl) hlen
  rw [hlv] at hl
  have q2 := q _ hH va_S.rf hl
  rw [Nat.sub_self, Nat.sub_self] at q2
  exact q2
/-- a call that may throw, in a method that catches it -/
theorem J.callVC {Z : CT → α → AH → State → Prop} {K2 : β → Option Value} {f1 : Option ((β ⊕ Nat) × AH)} {k : β → AH → Option (α × AH)} {kh : Nat → AH → Option (α × AH)} {b n index ci N gk s0 e0 hp ct : Nat} {As : List Value} {Cn En : String} {T : u_T} {ty : Nat → FieldType} (hct : catT own nm = some [(s0, e0, hp, ct)]) (hcov : s0 ≤ pc ∧ pc < e0) (hc0 : ct ≠ 0) (hcl : Cond.classLink own ct En ∈ WG) (hca : Cond.castable En En ∈ nestW) (hgk : ∀ E h a, EXc E h a → xc h a = gk → E = En) (kc : KC ci Cn T N ty) (hM : CX (lx x) (wx x) y cy nly rety Fy Ly K2 (rv (zx x) b :: As) h f1) (hcd : Cond.code y cy nly rety ∈ WG) (hlk : Cond.methodLink own index y ∈ WG) (hin : Cond.instanceMethod y ∈ WG) (hse : Cond.selects Cn y y ∈ WG) (hini : Cond.initialized Cn ∈ WG) (hy : y.cls = Cn ∧ y.cls ≠ "java/lang/invoke/MethodHandle" ∧ y.cls ≠ "java/lang/invoke/VarHandle" ∧ (parseMethodDescriptor y.desc).map (fun d => d.parameters.length) = some n) (hn : As.length = n) (hR : Fy + 1 ≤ F ∧ 8 + (nly + 11) + Ly ≤ L) (hst : (st.map fun v => v.category).sum ≤ 8) (hs0 : st0 = As.reverse ++ rv (zx x) b :: st) (hd : decode cc pc = .ok (.invokevirtual index, 3)) (g : xc h b = ci)
    (kk : ∀ r h1, J x (cc, own, nm, ret, F, L, nl) Z (pc + 3) lv ((K2 r).toList ++ st) h1 (k r h1)) (kx : ∀ a h1, xc h1 a = gk → J x (cc, own, nm, ret, F, L, nl) Z hp lv [rv (zx x) a] h1 (kh a h1)) : J x (cc, own, nm, ret, F, L, nl) Z pc lv st0 h (BC gk f1 k kh) := by
  obtain ⟨k1, k2, -⟩ := kc
  obtain ⟨p, l, e, R, s, m, args, below, meth, c, w, h0, nL⟩ := x
  intro r h' ef
  have key : ∀ (r1 : β ⊕ Nat) (h1 : AH), f1 = some (r1, h1) → xn h ≤ xn h1 → xs h ≤ xs h1 → ∀ (C : Cx (p, l, e, R, s, m, args, below, meth, c, w, h0, nL) (cc, own, nm, ret, F, L, nl)) (c1 : xn h1 - xn h0 ≤ R.cells) (c2 : xs h1 - xs h0 ≤ R.slots) (c3 : xn h0 ≤ xn h) (c4 : xs h0 ≤ xs h) (H : Heap) (locs : List Loc) (ls : Array Slot) (hH : HR w h H) (hS : va_S (fz w) s.heap H locs) (hl : lv_has ls nL lv) (hs2 : H.size = w.1 + xn h), vy_Run p l e R s m args below meth c H locs (xn h - xn h0) (xs h - xs h0) (xn h1 - xn h) (xs h1 - xs h) (F0 m pc ls st0) st (Qy w K2 r1 h1 (rv w.1 b :: As).toArray) (Xy w r1 h1) (fz w) := by
    intro r1 h1 e1 m1 m2 C c1 c2 c3 c4 H locs ls hH hS hl hs2
    obtain ⟨hx, hb, hml, hown, hts, hlk9, hr, hF, hL, rfl, hsz, hnm, hK, hSK⟩ := id C
    have hMet := (hM r1 h1 e1).2 hsz.2.2.2
    have hpre := pre_Pcx (av := rv w.1 b :: As) hs2 hH hS hK hSK
    obtain ⟨n0, n1⟩ := hH.pos (a := b) (by omega)
    obtain ⟨k0, -, hk0⟩ := pw_get (z := w.1) (cy := w.2.2.1) n1 (by omega : xc h b < 23)
    rw [ce_obj g k1] at hk0
    have hrv : rv w.1 b = .ref (w.1 + b) := rv_pos n0
    have hs0' : st0 = As.reverse ++ rv w.1 b :: st := hs0
    have hMet' : vy_Met l y (Cond.code y cy nly rety :: WG) { frames := Fy, cells := xn h1 - xn h, slots := xs h1 - xs h, locals := Ly } (Pcx w (rv w.1 b :: As) h) (Qy w K2 r1 h1) (Xy w r1 h1) (xn h1 - xn h) (xs h1 - xs h) (fz w) := hMet
    rw [hrv] at hMet' hpre hs0' ⊢
    have hcw := cwV (own := own) (index := index) (R := R) (rm := { frames := Fy, cells := xn h1 - xn h, slots := xs h1 - xs h, locals := Ly }) n hts (wg_ok (big := WG) (ws := wsV own index Cn y (Cond.code y cy nly rety :: WG)) (fun _ h => h) (fun q hq => by
      rcases List.mem_append.mp hq with hq | hq
      · simp only [List.mem_cons, List.not_mem_nil, or_false] at hq
        rcases hq with rfl | rfl | rfl | rfl
        · exact hlk
        · exact hin
        · exact hse
        · exact hini
      · rcases List.mem_cons.mp hq with rfl | hq
        · exact hcd
        · exact hq)) rfl rfl rfl hy (by rw [hF, hL]; exact hR)
    exact vy_runV (As := As) (rest := st) (C := Cn) (b := w.1 + b) ⟨hx, hb, hml, hown, hts⟩ hMet' hcw ⟨blind_Pcx, va_recv hK.1 hH.2.2.2.2 k2 hk0, hpre⟩ rfl hn hl.1 hs0' (lv_room hst) hd ⟨by omega, by omega⟩
  rcases BC_some ef with ⟨a, h1, e1, ef⟩ | ⟨a, h1, e1, eg, ef⟩
  · obtain ⟨m1, m2⟩ := (hM _ h1 e1).1 (p, l, e, R, s, m, args, below, meth, c, w, h0, nL)
    obtain ⟨q1, q2⟩ := kk a h1 r h' ef
    refine ⟨⟨Nat.le_trans m1 q1.1, Nat.le_trans m2 q1.2⟩, fun C c1 c2 c3 c4 H locs ls hH hS hl => ?_⟩
    intro T hT X
    have hs1 := X.heapSize
    rw [hT] at hs1
    have hsz := id C
    obtain ⟨hx, hb, hml, hown, hts, hlk9, hr, hF, hL, rfl, hsz, hnm, hK, hSK⟩ := hsz
    have hs2 : H.size = w.1 + xn h := by have := hH.1; omega
    refine WRy (key _ h1 e1 m1 m2 C (by omega) (by omega) c3 c4 H locs ls hH hS hl hs2) hS (fun v H1 locs1 hv hH1 hS1 => ?_) (fun b E ce H1 locs1 hb1 => by cases hb1) T hT X
    cases hv
    refine W.cs ?_ ?_ (q2 C c1 c2 (by omega) (by omega) H1 locs1 ls hH1 hS1 hl)
    · omega
    · omega
  · obtain ⟨m1, m2⟩ := (hM _ h1 e1).1 (p, l, e, R, s, m, args, below, meth, c, w, h0, nL)
    obtain ⟨q1, q2⟩ := kx a h1 eg r h' ef
    refine ⟨⟨Nat.le_trans m1 q1.1, Nat.le_trans m2 q1.2⟩, fun C c1 c2 c3 c4 H locs ls hH hS hl => ?_⟩
    intro T hT X
    have hs1 := X.heapSize
    rw [hT] at hs1
    have hsz := id C
    obtain ⟨hx, hb, hml, hown, hts, hlk9, hr, hF, hL, rfl, hsz, hnm, hK, hSK⟩ := hsz
    have hs2 : H.size = w.1 + xn h := by have := hH.1; omega
    refine WRy (key _ h1 e1 m1 m2 C (by omega) (by omega) c3 c4 H locs ls hH hS hl hs2) hS (fun v H1 locs1 hv => by cases hv) (fun b E ce H1 locs1 hb1 hb0 hE e1 e2 e3 hH1 hS1 => ?_) T hT X
    cases hb1
    have hEn : E = En := hgk E h1 a hE eg
    subst hEn
    have htb : c.exceptionTable.toList = tableOf [(s0, e0, hp, ct)] := by
      have := hsz.2.2.1
      unfold tabT at this
      rw [hct] at this
      exact this
    have q3 := q2 C c1 c2 (by omega) (by omega) H1 locs1 ls hH1 hS1 hl
    refine vx_catch (own := own) (name := E) (E := E) (ce := ce) hown [] { startPc := s0, endPc := e0, handlerPc := hp, catchType := ct } [] htb (fun z hz => by cases hz) (by simp [covers]; exact hcov) hc0 (hts _ hcl) (va_Nw.use (nestW_on _ hca) (hK.2.1 _ hca)) e1 e2 e3 ?_
    refine W.cs ?_ ?_ ?_ (cells' := xn h1 - xn h0) (slots' := xs h1 - xs h0)
    · omega
    · omega
    · have q4 : W p l e R s m args below meth c H1 locs1 (xn h1 - xn h0) (xs h1 - xs h0) (Z (p, l, e, R, s, m, args, below, meth, c, w, h0, nL) r h') (F0 m hp ls [rv w.1 a]) := q3
      rw [rv_pos hb0] at q4
      exact q4
theorem gk_stop : ∀ E h a, EXc E h a → xc h a = 14 → E = RX14 := fun E h a hE g => by
  rcases hE with ⟨e, -⟩ | ⟨-, e⟩
  · exact e
  · omega
theorem gk_nse : ∀ E h a, EXc E h a → xc h a = 99 → E = NSE := fun E h a hE g => by
  rcases hE with ⟨-, e⟩ | ⟨e, -⟩
  · omega
  · exact e
end EXC2
