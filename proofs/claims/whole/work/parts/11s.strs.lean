section STRS
variable {x : CT} {α β : Type} {K : CT → α → AH → State → Prop} {cc : ByteArray} {own nm : String} {ret : Option FieldType} {F L nl : Nat} {pc : Nat} {lv : List (Nat × Value)} {st st0 : List Value} {h : AH} {f : Option (α × AH)} {f1 : Option (β × AH)} {k : β → AH → Option (α × AH)} {K2 : β → Option Value} {y : MethodName} {cy : ByteArray} {nly Fy Ly : Nat} {rety : Option FieldType}
def bv (w : WT) (i : Nat) : Value := .ref (w.2.2.2.2 i)
theorem bv_is {w : WT} {i : Nat} : bv w i = .null ∨ ∃ q, bv w i = .ref q := Or.inr ⟨_, rfl⟩
/-- a step that looks at the world outside -/
theorem J.looks {pc2 : Nat} {s1 s2 : WT → List Value}
    (hW : ∀ (p : Program) (l : Launch) (e : Env) (R : Room) (s : State) (m : MethodId) (args : Array Value) (below : List Frame) (meth : Method) (c : Code) (w : WT) (H : Heap) (locs : List Loc) (cells slots : Nat) (Q : State → Prop) (ls : Array Slot), p.tables.exec = Jvm.exec → c.code = cc → s.vm.findClass own = some m.cls → (∀ q ∈ WG, q.before args s = true) → Kx w s → SK w s s.heap → va_S (fz w) s.heap H locs → W p l e R s m args below meth c H locs cells slots Q (F0 m pc2 ls (s2 w)) → W p l e R s m args below meth c H locs cells slots Q (F0 m pc ls (s1 w)))
    (k : J x (cc, own, nm, ret, F, L, nl) K pc2 lv (s2 (wx x)) h f) : J x (cc, own, nm, ret, F, L, nl) K pc lv (s1 (wx x)) h f := by
  obtain ⟨p, l, e, R, s, m, args, below, meth, c, w, h0, nL⟩ := x
  intro r h' ef
  obtain ⟨q1, q2⟩ := k r h' ef
  refine ⟨q1, fun C c1 c2 c3 c4 H locs ls hH hS hl => ?_⟩
  obtain ⟨hx, hb, hml, hown, hts, hlk2, hr, hF, hL, rfl, hsz, hnm, hK, hSK⟩ := id C
  exact hW p l e R s m args below meth c w H locs _ _ _ ls hx hb hown hts hK hSK hS (q2 C c1 c2 c3 c4 H locs ls hH hS hl)
theorem J_getComp {index : Nat} (hw : Cond.fieldLink own index "java/lang/String" "COMPACT_STRINGS" "Z" ∈ WG) (hd : decode cc pc = .ok (.getstatic index, 3)) (kk : J x (cc, own, nm, ret, F, L, nl) K (pc + 3) lv (.int (nI 1) :: st) h f) : J x (cc, own, nm, ret, F, L, nl) K pc lv st h f :=
  J.looks (s1 := fun _ => st) (s2 := fun _ => .int (nI 1) :: st) (fun p l e R s m args below meth c w H locs cells slots Q ls hx hb hown hts hK hSK hS k => va_gets hx hb hSK.2.1 hS hown (hts _ hw) (fun _ h => h) hd k) kk
theorem J_getFmt {index : Nat} (hw : Cond.fieldLink own index "jdk/internal/util/Preconditions" "SIOOBE_FORMATTER" "Ljava/util/function/BiFunction;" ∈ WG) (hd : decode cc pc = .ok (.getstatic index, 3)) (kk : ∀ v : Value, (v = .null ∨ ∃ q, v = .ref q) → J x (cc, own, nm, ret, F, L, nl) K (pc + 3) lv (v :: st) h f) : J x (cc, own, nm, ret, F, L, nl) K pc lv st h f := by
  obtain ⟨p, l, e, R, s, m, args, below, meth, c, w, h0, nL⟩ := x
  intro r h' ef
  obtain ⟨q1, -⟩ := kk .null (Or.inl rfl) r h' ef
  refine ⟨q1, fun C c1 c2 c3 c4 H locs ls hH hS hl => ?_⟩
  obtain ⟨hx, hb, hml, hown, hts, hlk2, hr, hF, hL, rfl, hsz, hnm, hK, hSK⟩ := id C
  rcases hSK.2.2.1 with hz | ⟨t, hz⟩
  · exact va_gets hx hb hz hS hown (hts _ hw) (fun _ h => h) hd ((kk .null (Or.inl rfl) r h' ef).2 C c1 c2 c3 c4 H locs ls hH hS hl)
  · exact va_gets hx hb hz hS hown (hts _ hw) (fun _ h => h) hd ((kk (.ref t) (Or.inr ⟨t, rfl⟩) r h' ef).2 C c1 c2 c3 c4 H locs ls hH hS hl)
theorem J_getSc {index i : Nat} (hi : i < strT.length) (hw : Cond.fieldLink own index "java/lang/String" "coder" "B" ∈ WG) (hd : decode cc pc = .ok (.getfield index, 3)) (kk : J x (cc, own, nm, ret, F, L, nl) K (pc + 3) lv (.int (nI 0) :: st) h f) : J x (cc, own, nm, ret, F, L, nl) K pc lv (sv (wx x) i :: st) h f :=
  J.looks (s1 := fun w => sv w i :: st) (s2 := fun _ => .int (nI 0) :: st) (fun p l e R s m args below meth c w H locs cells slots Q ls hx hb hown hts hK hSK hS k => vk_getf hx hb (hSK.1 i hi).2.1 hS hown (hts _ hw) (fun _ h => h) hd k) kk
theorem J_getSv {index i : Nat} (hi : i < strT.length) (hw : Cond.fieldLink own index "java/lang/String" "value" "[B" ∈ WG) (hd : decode cc pc = .ok (.getfield index, 3)) (kk : J x (cc, own, nm, ret, F, L, nl) K (pc + 3) lv (bv (wx x) i :: st) h f) : J x (cc, own, nm, ret, F, L, nl) K pc lv (sv (wx x) i :: st) h f :=
  J.looks (s1 := fun w => sv w i :: st) (s2 := fun w => bv w i :: st) (fun p l e R s m args below meth c w H locs cells slots Q ls hx hb hown hts hK hSK hS k => vk_getf hx hb (hSK.1 i hi).2.2.1 hS hown (hts _ hw) (fun _ h => h) hd k) kk
theorem J_blen {i : Nat} (hi : i < strT.length) (hd : decode cc pc = .ok (.arraylength, 1)) (kk : J x (cc, own, nm, ret, F, L, nl) K (pc + 1) lv (.int (nI (strL i)) :: st) h f) : J x (cc, own, nm, ret, F, L, nl) K pc lv (bv (wx x) i :: st) h f :=
  J.looks (s1 := fun w => bv w i :: st) (s2 := fun _ => .int (nI (strL i)) :: st) (fun p l e R s m args below meth c w H locs cells slots Q ls hx hb hown hts hK hSK hS k => by
    obtain ⟨cell, c1, c2, c3, c4, c5, c6, c7⟩ := (hSK.1 i hi).2.2.2.kept hS.2.1
    exact W.alen hx hb c1 c2 c5 rfl rfl hd k) kk
theorem J_bget {i : Nat} {j : Int32} (hi : i < strT.length) (g : gx j (strL i)) (hd : decode cc pc = .ok (.baload, 1)) (kk : J x (cc, own, nm, ret, F, L, nl) K (pc + 1) lv (.int (strB i j.toNatClampNeg) :: st) h f) : J x (cc, own, nm, ret, F, L, nl) K pc lv (.int j :: bv (wx x) i :: st) h f :=
  J.looks (s1 := fun w => .int j :: bv w i :: st) (s2 := fun _ => .int (strB i j.toNatClampNeg) :: st) (fun p l e R s m args below meth c w H locs cells slots Q ls hx hb hown hts hK hSK hS k => by
    obtain ⟨cell, c1, c2, c3, c4, c5, c6, c7⟩ := (hSK.1 i hi).2.2.2.kept hS.2.1
    have hlt : j.toNatClampNeg < strL i := Nat.not_le.mp fun q => g (Or.inr q)
    exact W.bald hx hb c1 c2 c3 (fun q => g (q.elim Or.inl (fun z => Or.inr (Nat.le_trans c4 z)))) (c6 _ hlt) rfl rfl hd k) kk
theorem J_i2c {a : Int32} (hd : decode cc pc = .ok (.i2c, 1)) (k : J x (cc, own, nm, ret, F, L, nl) K (pc + 1) lv (.int (a.toUInt32 % 65536).toInt32 :: st) h f) : J x (cc, own, nm, ret, F, L, nl) K pc lv (.int a :: st) h f :=
  J.goes (fun _ _ _ _ _ _ _ _ _ _ _ _ _ _ _ _ hx hb hown hts hl k => lv_i2c hx hb hd rfl k) k
theorem J_nret {rt : FieldType} {v : Int32} (hd : decode cc pc = .ok (.ireturn, 1)) (hn : narrow rt (.int v) = .int v) : J x (cc, own, nm, some rt, F, L, nl) ZI pc lv [.int v] h (some (v, h)) := by
  obtain ⟨p, l, e, R, s, m, args, below, meth, c, w, h0, nL⟩ := x
  intro r h' ef
  cases ef
  refine ⟨⟨Nat.le_refl _, Nat.le_refl _⟩, fun C c1 c2 c3 c4 H locs ls hH hS hl => ?_⟩
  obtain ⟨hx, hb, hml, hown, hts, hlk, hr, -, -, rfl, hsz, hnm, hK, -⟩ := id C
  refine W.widen c1 c2 ?_
  exact W.zret hx hb hr hn (fun t ht hW => ⟨rfl, by rw [ht]; exact hH, hS.F ht⟩) hS.2.2 hd hlk
theorem J.callVS {i n index : Nat} {As : List Value} (hi : i < strT.length) (hM : CM (lx x) (wx x) y cy nly rety Fy Ly K2 (sv (wx x) i :: As) h f1) (hcd : Cond.code y cy nly rety ∈ WG) (hlk : Cond.methodLink own index y ∈ WG) (hin : Cond.instanceMethod y ∈ WG) (hse : Cond.selects "java/lang/String" y y ∈ WG) (hini : Cond.initialized "java/lang/String" ∈ WG) (hy : y.cls = "java/lang/String" ∧ y.cls ≠ "java/lang/invoke/MethodHandle" ∧ y.cls ≠ "java/lang/invoke/VarHandle" ∧ (parseMethodDescriptor y.desc).map (fun d => d.parameters.length) = some n) (hn : As.length = n) (hR : Fy + 1 ≤ F ∧ 8 + (nly + 11) + Ly ≤ L) (hst : (st.map fun v => v.category).sum ≤ 8) (hs0 : st0 = As.reverse ++ sv (wx x) i :: st) (hd : decode cc pc = .ok (.invokevirtual index, 3))
    (kk : ∀ r h1, J x (cc, own, nm, ret, F, L, nl) K (pc + 3) lv ((K2 r).toList ++ st) h1 (k r h1)) : J x (cc, own, nm, ret, F, L, nl) K pc lv st0 h (BN f1 k) := by
  refine J.calls2 hM (fun p l e R s m args below meth c w H locs cells slots ls r1 h1 hz hx hb hml hown hts hF hL hK hH hls g1 g2 hMet hpre hSK hS => ?_) kk
  subst hz
  have hcw := cwV (own := own) (index := index) (R := R) (rm := { frames := Fy, cells := xn h1 - xn h, slots := xs h1 - xs h, locals := Ly }) n hts (wg_ok (big := WG) (ws := wsV own index "java/lang/String" y (Cond.code y cy nly rety :: WG)) (fun _ h => h) (fun q hq => by
    rcases List.mem_append.mp hq with hq | hq
    · simp only [List.mem_cons, List.not_mem_nil, or_false] at hq
      rcases hq with rfl | rfl | rfl | rfl
      · exact hlk
      · exact hin
      · exact hse
      · exact hini
    · rcases List.mem_cons.mp hq with rfl | hq
      · exact hcd
      · exact hq)) rfl rfl rfl hy (by rw [hF, hL]; exact hR)
  obtain ⟨cell, d1, d2, d3, -⟩ := (hSK.1 i hi).1.kept hS.2.1
  exact va_runV (As := As) (rest := st) (C := "java/lang/String") (b := (wx x).2.2.2.1 i) ⟨hx, hb, hml, hown, hts⟩ hMet hcw ⟨blind_Pcx, ⟨cell, d1, d2, d3⟩, hpre⟩ rfl hn hls hs0 (lv_room hst) hd ⟨g1, g2⟩
end STRS
theorem hv_cat {v : Value} (hv : v = .null ∨ ∃ q, v = .ref q) : v.category = 1 := by rcases hv with rfl | ⟨q, rfl⟩ <;> rfl
theorem shr0 (a : Int32) : a >>> (nI 0 &&& 31) = a := by
  have : (nI 0 &&& 31 : Int32) = 0 := by decide
  rw [this]
  simp
def strC (i : Nat) (j : Int32) : Int32 := ((strB i j.toNatClampNeg &&& nI 255).toUInt32 % 65536).toInt32
theorem str_small : ∀ i, i < strT.length → strL i < 2 ^ 31 := by decide +kernel
theorem str_chk {i : Nat} {j : Int32} (hi : i < strT.length) (h : AH) : G (gx j (strL i)) (some (strC i j, h)) = BN (G (¬ j < 0 ∧ j < nI (strL i)) (some ((), h))) (fun _ h => G (gx j (strL i)) (some (strC i j, h))) := by
  unfold G
  by_cases g : gx j (strL i)
  · have g2 : ¬ j < 0 ∧ j < nI (strL i) := by
      obtain ⟨q, hq, rfl⟩ := vp_in_of g (str_small i hi)
      exact ⟨nI_pos (Nat.lt_trans hq (str_small i hi)), nI_lt hq (str_small i hi)⟩
    rw [if_pos g, if_pos g2, BN_ok, if_pos g]
  · rw [if_neg g]
    split
    · rfl
    · rfl
theorem str_chr {i : Nat} {j : Int32} (h : AH) : G (gx j (strL i)) (some (strC i j, h)) = BN (some (nI 1, h)) (fun v h => if v = 0 then none else BN (G (gx j (strL i)) (some (strC i j, h))) (fun v h => G (narrow .char (.int v) = .int v) (some (v, h)))) := by
  rw [BN_ok, if_neg (by decide)]
  unfold G
  by_cases g : gx j (strL i)
  · rw [if_pos g, BN_ok, if_pos (show narrow .char (.int (strC i j)) = .int (strC i j) from pk_nc _)]
  · rw [if_neg g]
    rfl
theorem cat_B {w : WT} {i : Nat} : (bv w i).category = 1 := rfl
theorem ctJ0_coder_7d493 (l : Launch) (w : WT) {i : Nat} (hi : i < strT.length) (h : AH) : CM l w yJ0_coder_7d493 cJ0_coder_7d493 1 (some .byte) 0 0 KI [sv w i] h (some (nI 0, h)) :=
  CM.of (by decide +kernel) (by simp [lg_sl, rv_cat, cat_I, cat_L, cat_S, cat_B]) (lv := [(0, sv w i)]) (by simp [lv_args, rv_cat, cat_I, cat_L, cat_S, cat_B]) (fun x hx => by
    subst hx
    show J x _ _ _ _ _ h (if (nI 1 : Int32) = 0 then none else some (nI 0, h))
    refine J_getComp kw_3_144 dJ0_coder_7d493_0 ?_
    refine J_if_eq (tgt := 13) dJ0_coder_7d493_3 rfl J_none ?_
    refine J_aload_n 0 dJ0_coder_7d493_6 sv_is rfl ?_
    refine J_getSc hi kw_9_188 dJ0_coder_7d493_7 ?_
    refine J_goto (tgt := 14) dJ0_coder_7d493_10 rfl ?_
    exact J_nret dJ0_coder_7d493_14 rfl)
theorem ctJ0_isLatin1_aae02 (l : Launch) (w : WT) {i : Nat} (hi : i < strT.length) (h : AH) : CM l w yJ0_isLatin1_aae02 cJ0_isLatin1_aae02 1 (some .boolean) 0 0 KI [sv w i] h (some (nI 1, h)) :=
  CM.of (by decide +kernel) (by simp [lg_sl, rv_cat, cat_I, cat_L, cat_S, cat_B]) (lv := [(0, sv w i)]) (by simp [lv_args, rv_cat, cat_I, cat_L, cat_S, cat_B]) (fun x hx => by
    subst hx
    show J x _ _ _ _ _ h (if (nI 1 : Int32) = 0 then none else if (nI 0 : Int32) = 0 then some (nI 1, h) else none)
    refine J_getComp kw_3_144 dJ0_isLatin1_aae02_0 ?_
    refine J_if_eq (tgt := 17) dJ0_isLatin1_aae02_3 rfl J_none ?_
    refine J_aload_n 0 dJ0_isLatin1_aae02_6 sv_is rfl ?_
    refine J_getSc hi kw_9_188 dJ0_isLatin1_aae02_7 ?_
    refine J_if_ne (tgt := 17) dJ0_isLatin1_aae02_10 rfl J_none ?_
    refine J_iconst (v := nI 1) dJ0_isLatin1_aae02_13 rfl ?_
    refine J_goto (tgt := 18) dJ0_isLatin1_aae02_14 rfl ?_
    exact J_nret dJ0_isLatin1_aae02_18 rfl)
theorem ctJ0_length_8abf5 (l : Launch) (w : WT) {i : Nat} (hi : i < strT.length) (h : AH) : CM l w yJ0_length_8abf5 cJ0_length_8abf5 1 (some .int) 1 20 KI [sv w i] h (some (nI (strL i), h)) :=
  CM.of (by decide +kernel) (by simp [lg_sl, rv_cat, cat_I, cat_L, cat_S, cat_B]) (lv := [(0, sv w i)]) (by simp [lv_args, rv_cat, cat_I, cat_L, cat_S, cat_B]) (fun x hx => by
    subst hx
    have e0 : some (nI (strL i), h) = BN (some (nI 0, h)) (fun v h => some (nI (strL i) >>> (v &&& 31), h)) := by rw [BN_ok]; simp [shr0]
    rw [e0]
    refine J_aload_n 0 dJ0_length_8abf5_0 sv_is rfl ?_
    refine J_getSv hi kw_9_187 dJ0_length_8abf5_1 ?_
    refine J_blen hi dJ0_length_8abf5_4 ?_
    refine J_aload_n 0 dJ0_length_8abf5_5 sv_is rfl ?_
    refine J.callVS (n := 0) (As := []) hi (ctJ0_coder_7d493 (lx x) (wx x) hi h) kw_3_143 kw_3_140 kw_3_141 kw_3_142 kw_1_20 (by decide +kernel) rfl (by decide) (by simp [cat_I]) rfl dJ0_length_8abf5_6 (fun v1 h => ?_)
    show J x _ _ 9 _ [.int v1, .int (nI (strL i))] h _
    refine J_ishr dJ0_length_8abf5_9 ?_
    exact J_iret dJ0_length_8abf5_10)
theorem ctJ3_checkIndex_8e157 (l : Launch) (w : WT) (j n : Int32) {v : Value} (hv : v = .null ∨ ∃ q, v = .ref q) (h : AH) : CM l w yJ3_checkIndex_8e157 cJ3_checkIndex_8e157 3 (some .int) 0 0 KI [.int j, .int n, v] h (G (¬ j < 0 ∧ j < n) (some (j, h))) :=
  CM.of (by decide +kernel) (by simp [lg_sl, rv_cat, cat_I, cat_L, cat_S, cat_B, hv_cat hv]) (lv := [(0, .int j), (1, .int n), (2, v)]) (by simp [lv_args, rv_cat, cat_I, cat_L, cat_S, cat_B, hv_cat hv]) (fun x hx => by
    subst hx
    refine J_G (fun g => ?_)
    have e0 : some (j, h) = (if j < 0 then none else if j < n then some (j, h) else none) := by rw [if_neg g.1, if_pos g.2]
    rw [e0]
    refine J_iload_n 0 dJ3_checkIndex_8e157_0 rfl ?_
    refine J_if_lt (tgt := 9) dJ3_checkIndex_8e157_1 rfl J_none ?_
    refine J_iload_n 0 dJ3_checkIndex_8e157_4 rfl ?_
    refine J_iload_n 1 dJ3_checkIndex_8e157_5 rfl ?_
    refine J_icmp_lt (tgt := 16) dJ3_checkIndex_8e157_6 rfl ?_ J_none
    refine J_iload_n 0 dJ3_checkIndex_8e157_16 rfl ?_
    exact J_iret dJ3_checkIndex_8e157_17)
theorem ctJ0_checkIndex_df160 (l : Launch) (w : WT) (j n : Int32) (h : AH) : CM l w yJ0_checkIndex_df160 cJ0_checkIndex_df160 2 none 1 22 KV [.int j, .int n] h (G (¬ j < 0 ∧ j < n) (some ((), h))) :=
  CM.of (by decide +kernel) (by simp [lg_sl, rv_cat, cat_I, cat_L, cat_S, cat_B]) (lv := [(0, .int j), (1, .int n)]) (by simp [lv_args, rv_cat, cat_I, cat_L, cat_S, cat_B]) (fun x hx => by
    subst hx
    have e0 : G (¬ j < 0 ∧ j < n) (some ((), h)) = BN (G (¬ j < 0 ∧ j < n) (some (j, h))) (fun _ h => some ((), h)) := by unfold G; split <;> rfl
    rw [e0]
    refine J_iload_n 0 dJ0_checkIndex_df160_0 rfl ?_
    refine J_iload_n 1 dJ0_checkIndex_df160_1 rfl ?_
    refine J_getFmt kw_3_160 dJ0_checkIndex_df160_2 (fun v hv => ?_)
    refine J.callS (n := 3) (As := [.int j, .int n, v]) (ctJ3_checkIndex_8e157 (lx x) (wx x) j n hv h) kw_3_164 kw_3_162 kw_3_163 kw_1_22 (by decide +kernel) rfl (by decide) (Nat.zero_le _) rfl dJ0_checkIndex_df160_5 (fun v1 h => ?_)
    show J x _ _ 8 _ [.int v1] h _
    refine J_pop dJ0_checkIndex_df160_8 rfl ?_
    exact J_vret dJ0_checkIndex_df160_9)
theorem ctJ1_charAt_3b067 (l : Launch) (w : WT) {i : Nat} (hi : i < strT.length) (j : Int32) (h : AH) : CM l w yJ1_charAt_3b067 cJ1_charAt_3b067 2 (some .char) 2 43 KI [bv w i, .int j] h (G (gx j (strL i)) (some (strC i j, h))) :=
  CM.of (by decide +kernel) (by simp [lg_sl, rv_cat, cat_I, cat_L, cat_S, cat_B, cat_B]) (lv := [(0, bv w i), (1, .int j)]) (by simp [lv_args, rv_cat, cat_I, cat_L, cat_S, cat_B, cat_B]) (fun x hx => by
    subst hx
    have e0 : G (gx j (strL i)) (some (strC i j, h)) = BN (G (¬ j < 0 ∧ j < nI (strL i)) (some ((), h))) (fun _ h => G (gx j (strL i)) (some (strC i j, h))) := str_chk hi h
    rw [e0]
    refine J_iload_n 1 dJ1_charAt_3b067_0 rfl ?_
    refine J_aload_n 0 dJ1_charAt_3b067_1 bv_is rfl ?_
    refine J_blen hi dJ1_charAt_3b067_2 ?_
    refine J.callS (n := 2) (As := [.int j, .int (nI (strL i))]) (ctJ0_checkIndex_df160 (lx x) (wx x) j (nI (strL i)) h) kw_3_159 kw_3_157 kw_3_158 kw_1_20 (by decide +kernel) rfl (by decide) (Nat.zero_le _) rfl dJ1_charAt_3b067_3 (fun _ h => ?_)
    show J x _ _ 6 _ [] h _
    refine J_G (fun g => ?_)
    refine J_aload_n 0 dJ1_charAt_3b067_6 bv_is rfl ?_
    refine J_iload_n 1 dJ1_charAt_3b067_7 rfl ?_
    refine J_bget hi g dJ1_charAt_3b067_8 ?_
    refine J_sipush (v := nI 255) dJ1_charAt_3b067_9 rfl ?_
    refine J_iand dJ1_charAt_3b067_12 ?_
    refine J_i2c dJ1_charAt_3b067_13 ?_
    exact J_nret dJ1_charAt_3b067_14 (pk_nc _))
theorem ctJ0_charAt_5068e (l : Launch) (w : WT) {i : Nat} (hi : i < strT.length) (j : Int32) (h : AH) : CM l w yJ0_charAt_5068e cJ0_charAt_5068e 2 (some .char) 3 64 KI [sv w i, .int j] h (G (gx j (strL i)) (some (strC i j, h))) :=
  CM.of (by decide +kernel) (by simp [lg_sl, rv_cat, cat_I, cat_L, cat_S, cat_B, cat_B]) (lv := [(0, sv w i), (1, .int j)]) (by simp [lv_args, rv_cat, cat_I, cat_L, cat_S, cat_B, cat_B]) (fun x hx => by
    subst hx
    have e0 : G (gx j (strL i)) (some (strC i j, h)) = BN (some (nI 1, h)) (fun v h => if v = 0 then none else BN (G (gx j (strL i)) (some (strC i j, h))) (fun v h => G (narrow .char (.int v) = .int v) (some (v, h)))) := str_chr h
    rw [e0]
    refine J_aload_n 0 dJ0_charAt_5068e_0 sv_is rfl ?_
    refine J.callVS (n := 0) (As := []) hi (ctJ0_isLatin1_aae02 (lx x) (wx x) hi h) kw_3_153 kw_3_150 kw_3_151 kw_3_152 kw_1_20 (by decide +kernel) rfl (by decide) (Nat.zero_le _) rfl dJ0_charAt_5068e_1 (fun v1 h => ?_)
    show J x _ _ 4 _ [.int v1] h _
    refine J_if_eq (tgt := 16) dJ0_charAt_5068e_4 rfl J_none ?_
    refine J_aload_n 0 dJ0_charAt_5068e_7 sv_is rfl ?_
    refine J_getSv hi kw_9_187 dJ0_charAt_5068e_8 ?_
    refine J_iload_n 1 dJ0_charAt_5068e_11 rfl ?_
    refine J.callS (n := 2) (As := [bv (wx x) i, .int j]) (ctJ1_charAt_3b067 (lx x) (wx x) hi j h) kw_3_156 kw_3_154 kw_3_155 kw_1_21 (by decide +kernel) rfl (by decide) (Nat.zero_le _) rfl dJ0_charAt_5068e_12 (fun v2 h => ?_)
    show J x _ _ 15 _ [.int v2] h _
    refine J_G (fun g => ?_)
    exact J_nret dJ0_charAt_5068e_15 g)
