/-! THE JUDGEMENT J: from the frame at pc, with these locals, this stack, this heap, the machine does what the plain function f says. -/
def WG : List Cond := lw_tbl.filter goodWord
theorem wg_in {w : Cond} (h : w ∈ lw_tbl) (g : goodWord w = true) : w ∈ WG := List.mem_filter.mpr ⟨h, g⟩
theorem wg_ok {big ws : List Cond} (hb : ∀ w ∈ WG, w ∈ big) (hw : ∀ w ∈ ws, w ∈ WG) : GoodIn big ws := fun w h => ⟨hb w (hw w h), good_of_word (List.mem_filter.mp (hw w h)).2⟩
def nestW : List Cond := [(Cond.methodLinkNest "FallTrials$Book" (36) ({ cls := "FallTrials$Clause", name := "<init>", desc := "()V" } : MethodName) "FallTrials"),
  (Cond.methodLinkNest "FallTrials$Trials" (11) ({ cls := "FallTrials$Purse", name := "<init>", desc := "()V" } : MethodName) "FallTrials"),
  (Cond.methodLinkNest "FallTrials$Trials" (20) ({ cls := "FallTrials$FallLanes", name := "<init>", desc := "()V" } : MethodName) "FallTrials"),
  (Cond.methodLinkNest "FallTrials$Trials" (62) ({ cls := "FallTrials$Trace", name := "<init>", desc := "()V" } : MethodName) "FallTrials"),
  (Cond.methodLinkNest "FallTrials" (71) ({ cls := "FallTrials$Trace", name := "<init>", desc := "()V" } : MethodName) "FallTrials"),
  (Cond.methodLinkNest "FallTrials$Course" (76) ({ cls := "FallTrials", name := "cell", desc := "(II)I" } : MethodName) "FallTrials"),
  (Cond.methodLinkNest "FallTrials$Trace" (51) ({ cls := "FallTrials", name := "cell", desc := "(II)I" } : MethodName) "FallTrials"),
  (Cond.methodLinkNest "FallTrials$Support" (47) ({ cls := "FallTrials", name := "cell", desc := "(II)I" } : MethodName) "FallTrials"),
  (Cond.methodLinkNest "FallTrials$Purse" (55) ({ cls := "FallTrials", name := "numberOf", desc := "(III)I" } : MethodName) "FallTrials"),
  (Cond.castable "java/util/NoSuchElementException" "java/util/NoSuchElementException"),
  (Cond.declares ({ cls := "java/lang/RuntimeException", name := "<init>", desc := "()V" } : MethodName)),
  (Cond.declares ({ cls := "java/lang/RuntimeException", name := "<init>", desc := "(Ljava/lang/String;)V" } : MethodName)),
  (Cond.declares ({ cls := "java/lang/Exception", name := "<init>", desc := "()V" } : MethodName)),
  (Cond.declares ({ cls := "java/lang/Exception", name := "<init>", desc := "(Ljava/lang/String;)V" } : MethodName)),
  (Cond.declares ({ cls := "java/lang/Throwable", name := "<init>", desc := "()V" } : MethodName)),
  (Cond.declares ({ cls := "java/lang/Throwable", name := "<init>", desc := "(Ljava/lang/String;)V" } : MethodName)),
  (Cond.castable "FallTrialsModel$Stop" "FallTrialsModel$Stop"),
  (Cond.fieldLinkNest "FallTrialsModel" (114) "FallTrialsModel$Stop" "kind" "I" "FallTrialsModel"),
  (Cond.fieldLinkNest "FallTrialsModel" (120) "FallTrialsModel$Stop" "place" "I" "FallTrialsModel"),
  (Cond.methodLinkNest "FallTrialsModel" (42) ({ cls := "FallTrialsModel$Harm", name := "<init>", desc := "()V" } : MethodName) "FallTrialsModel"),
  (Cond.fieldLinkNest "FallTrialsModel" (433) "FallTrialsModel$Harm" "lost" "[Z" "FallTrialsModel"),
  (Cond.fieldLinkNest "FallTrialsModel" (430) "FallTrialsModel$Harm" "late" "[Z" "FallTrialsModel"),
  (Cond.fieldLinkNest "FallTrialsModel" (417) "FallTrialsModel$Harm" "down" "[I" "FallTrialsModel"),
  (Cond.methodLinkNest "FallTrialsModel" (339) ({ cls := "FallTrialsModel$Book", name := "<init>", desc := "()V" } : MethodName) "FallTrialsModel"),
  (Cond.fieldLinkNest "FallTrialsModel" (235) "FallTrialsModel$Book" "names" "I" "FallTrialsModel"),
  (Cond.fieldLinkNest "FallTrialsModel" (209) "FallTrialsModel$Book" "machines" "I" "FallTrialsModel"),
  (Cond.fieldLinkNest "FallTrialsModel" (216) "FallTrialsModel$Book" "rows" "I" "FallTrialsModel"),
  (Cond.fieldLinkNest "FallTrialsModel" (243) "FallTrialsModel$Book" "facts" "I" "FallTrialsModel"),
  (Cond.fieldLinkNest "FallTrialsModel" (264) "FallTrialsModel$Book" "maybes" "I" "FallTrialsModel"),
  (Cond.fieldLinkNest "FallTrialsModel" (273) "FallTrialsModel$Book" "rules" "I" "FallTrialsModel"),
  (Cond.fieldLinkNest "FallTrialsModel" (292) "FallTrialsModel$Book" "sends" "I" "FallTrialsModel"),
  (Cond.fieldLinkNest "FallTrialsModel" (240) "FallTrialsModel$Book" "keptRows" "I" "FallTrialsModel"),
  (Cond.fieldLinkNest "FallTrialsModel" (231) "FallTrialsModel$Book" "name" "[J" "FallTrialsModel"),
  (Cond.fieldLinkNest "FallTrialsModel" (203) "FallTrialsModel$Book" "isRow" "[Z" "FallTrialsModel"),
  (Cond.fieldLinkNest "FallTrialsModel" (206) "FallTrialsModel$Book" "number" "[I" "FallTrialsModel"),
  (Cond.fieldLinkNest "FallTrialsModel" (246) "FallTrialsModel$Book" "factRow" "[I" "FallTrialsModel"),
  (Cond.fieldLinkNest "FallTrialsModel" (257) "FallTrialsModel$Book" "factAt" "[I" "FallTrialsModel"),
  (Cond.fieldLinkNest "FallTrialsModel" (260) "FallTrialsModel$Book" "maybe" "[I" "FallTrialsModel"),
  (Cond.fieldLinkNest "FallTrialsModel" (276) "FallTrialsModel$Book" "ruleRow" "[I" "FallTrialsModel"),
  (Cond.fieldLinkNest "FallTrialsModel" (289) "FallTrialsModel$Book" "ruleAt" "[I" "FallTrialsModel"),
  (Cond.fieldLinkNest "FallTrialsModel" (279) "FallTrialsModel$Book" "isNow" "[Z" "FallTrialsModel"),
  (Cond.fieldLinkNest "FallTrialsModel" (295) "FallTrialsModel$Book" "sendRow" "[I" "FallTrialsModel"),
  (Cond.fieldLinkNest "FallTrialsModel" (300) "FallTrialsModel$Book" "sendTo" "[I" "FallTrialsModel"),
  (Cond.fieldLinkNest "FallTrialsModel" (303) "FallTrialsModel$Book" "sendAt" "[I" "FallTrialsModel"),
  (Cond.fieldLinkNest "FallTrialsModel" (270) "FallTrialsModel$Book" "asks" "[I" "FallTrialsModel"),
  (Cond.fieldLinkNest "FallTrialsModel" (267) "FallTrialsModel$Book" "nots" "[I" "FallTrialsModel"),
  (Cond.fieldLinkNest "FallTrialsModel" (316) "FallTrialsModel$Book" "pres" "I" "FallTrialsModel"),
  (Cond.fieldLinkNest "FallTrialsModel" (327) "FallTrialsModel$Book" "posts" "I" "FallTrialsModel"),
  (Cond.fieldLinkNest "FallTrialsModel" (306) "FallTrialsModel$Book" "preRow" "[I" "FallTrialsModel"),
  (Cond.fieldLinkNest "FallTrialsModel" (309) "FallTrialsModel$Book" "preAt" "[I" "FallTrialsModel"),
  (Cond.fieldLinkNest "FallTrialsModel" (321) "FallTrialsModel$Book" "postRow" "[I" "FallTrialsModel"),
  (Cond.fieldLinkNest "FallTrialsModel" (324) "FallTrialsModel$Book" "postAt" "[I" "FallTrialsModel")]
/-- the String constants: class, entry, text, number -/
def strW : List (String × Nat × String × Nat) := [("FallTrials$Reader", 60, "promise", 12), ("FallTrials$Reader", 117, "and", 0), ("FallTrials$Reader", 70, "machine", 6), ("FallTrials$Reader", 75, "row", 13), ("FallTrials$Reader", 80, "fact", 2), ("FallTrials$Reader", 85, "rule", 14), ("FallTrials$Reader", 90, "send", 15), ("FallTrials$Reader", 115, "not", 9), ("FallTrials$Reader", 119, "or", 11), ("FallTrials$Reader", 121, "at", 1), ("FallTrials$Reader", 122, "if", 4), ("FallTrials$Reader", 222, "gives", 3), ("FallTrials$Reader", 151, "kept", 5), ("FallTrials$Reader", 167, "maybe", 7), ("FallTrials$Reader", 184, "now", 10), ("FallTrials$Reader", 189, "next", 8), ("FallTrials$Reader", 203, "to", 16), ("FallTrialsModel", 172, "promise", 12), ("FallTrialsModel", 158, "machine", 6), ("FallTrialsModel", 164, "row", 13), ("FallTrialsModel", 166, "fact", 2), ("FallTrialsModel", 168, "rule", 14), ("FallTrialsModel", 170, "send", 15), ("FallTrialsModel", 174, "not", 9), ("FallTrialsModel", 176, "and", 0), ("FallTrialsModel", 178, "or", 11), ("FallTrialsModel", 180, "at", 1), ("FallTrialsModel", 181, "if", 4), ("FallTrialsModel", 238, "kept", 5), ("FallTrialsModel", 263, "maybe", 7), ("FallTrialsModel", 282, "now", 10), ("FallTrialsModel", 284, "next", 8), ("FallTrialsModel", 298, "to", 16), ("FallTrialsModel", 319, "gives", 3)]
def strT : List (List Nat) := [[97, 110, 100], [97, 116], [102, 97, 99, 116], [103, 105, 118, 101, 115], [105, 102], [107, 101, 112, 116], [109, 97, 99, 104, 105, 110, 101], [109, 97, 121, 98, 101], [110, 101, 120, 116], [110, 111, 116], [110, 111, 119], [111, 114], [112, 114, 111, 109, 105, 115, 101], [114, 111, 119], [114, 117, 108, 101], [115, 101, 110, 100], [116, 111]]
def strL (i : Nat) : Nat := (strT.getD i []).length
def strB (i j : Nat) : Int32 := nI ((strT.getD i []).getD j 0)
/-- the law's script: where it lies, its length, what it holds (kept in the places of no String) -/
def scb (w : WT) : Nat := w.2.2.2.1 1000
def scL (w : WT) : Nat := w.2.2.2.1 1001
def scx (w : WT) (j : Nat) : Int32 := nI (w.2.2.2.2 (2000 + j))
def SC (w : WT) (U : State) (H : Heap) : Prop := va_X (scb w) (scL w) (scx w) U H ∧ ¬ fz w (scb w)
theorem SC.moved {w : WT} {u U : State} {H : Heap} (hvm : u.vm.Alike U.vm) (h : SC w u H) : SC w U H := ⟨h.1.moved hvm, h.2⟩
theorem SC.kept {w : WT} {U : State} {H H1 : Heap} (h : SC w U H) (hq : ∀ a : Nat, a < H.size → ¬ fz w a → H1[a]? = H[a]?) : SC w U H1 := ⟨h.1.kept (hq _ (by obtain ⟨c, hc, -⟩ := h.1; exact (Array.getElem?_eq_some_iff.mp hc).1) h.2), h.2⟩
def SS (w : WT) (U : State) (H : Heap) : Prop := ∀ i : Nat, i < strT.length → va_O "java/lang/String" (w.2.2.2.1 i) (fz w) U H ∧ va_OF "java/lang/String" "coder" "B" (.int 0) (w.2.2.2.1 i) (fz w) U H ∧ va_OF "java/lang/String" "value" "[B" (.ref (w.2.2.2.2 i)) (w.2.2.2.1 i) (fz w) U H ∧ va_T .byte (w.2.2.2.2 i) (strL i) (fun j => .int (strB i j)) (fz w) U H
def SK (w : WT) (U : State) (H : Heap) : Prop := SS w U H ∧ va_Z "java/lang/String" "COMPACT_STRINGS" "Z" (.int 1) (fz w) U H ∧ va_Zq "jdk/internal/util/Preconditions" "SIOOBE_FORMATTER" "Ljava/util/function/BiFunction;" (fz w) U H ∧ vx_Zq Bundle.tN "UNASSIGNED_STACK" Bundle.steD (fz w) U H ∧ vx_Zq Bundle.tN "SUPPRESSED_SENTINEL" Bundle.listD (fz w) U H ∧ SC w U H
theorem SK.moved {w : WT} {u U : State} {H : Heap} (hvm : u.vm.Alike U.vm) (h : SK w u H) : SK w U H := ⟨fun i hi => ⟨(h.1 i hi).1.moved hvm, (h.1 i hi).2.1.moved hvm, (h.1 i hi).2.2.1.moved hvm, (h.1 i hi).2.2.2.moved hvm⟩, h.2.1.moved hvm, h.2.2.1.moved hvm, h.2.2.2.1.moved hvm, h.2.2.2.2.1.moved hvm, h.2.2.2.2.2.moved hvm⟩
theorem SK.kept {w : WT} {U : State} {H H1 : Heap} (h : SK w U H) (hq : ∀ a : Nat, a < H.size → ¬ fz w a → H1[a]? = H[a]?) : SK w U H1 := ⟨fun i hi => ⟨(h.1 i hi).1.kept hq, (h.1 i hi).2.1.kept hq, (h.1 i hi).2.2.1.kept hq, (h.1 i hi).2.2.2.kept hq⟩, h.2.1.kept hq, h.2.2.1.kept hq, h.2.2.2.1.kept hq, h.2.2.2.2.1.kept hq, h.2.2.2.2.2.kept hq⟩
def aoW : List String := [RX1, RX4, RX8]
def Kx (w : WT) (U : State) : Prop := va_K w.2.1 vwCl (tysA w.2.2.1) U ∧ (∀ q ∈ nestW, va_Nw q U) ∧ (∀ q ∈ strW, vk_R q.1 q.2.1 q.2.2.1 (w.2.2.2.1 q.2.2.2) U) ∧ (∀ q ∈ aoW, va_AO q U)
def isNest : Cond → Bool
  | .fieldLinkNest .. => true
  | .methodLinkNest .. => true
  | .declares .. => true
  | .castable .. => true
  | _ => false
theorem nestW_ok : ∀ q ∈ nestW, isNest q = true := by decide +kernel
theorem nestW_on : ∀ q ∈ nestW, q.onTables = true := by decide +kernel
theorem Kx.warm {w : WT} {s U : State} (hW : s.WarmedH U.vm) (h : Kx w s) : Kx w U := by
  refine ⟨h.1.moved hW.alike, fun q hq => ?_, fun q hq => vk_R.warm hW (h.2.2.1 q hq), fun q hq => (h.2.2.2 q hq).moved hW.alike⟩
  have h1 := nestW_ok q hq
  have h2 := h.2.1 q hq
  cases q <;> first | exact va_Nw.warmF hW h2 | exact va_Nw.warmM hW h2 | exact va_Nw.warmD hW h2 | exact va_Nw.warmC hW h2 | (simp [isNest] at h1; done)
theorem Kx.same {w : WT} {u U : State} (hv : U.vm = u.vm) (h : Kx w u) : Kx w U := by
  refine ⟨h.1.moved (by rw [hv]; exact Vm.Alike.refl _), fun q hq => ?_, fun q hq => vk_R.same hv (h.2.2.1 q hq), fun q hq => (h.2.2.2 q hq).moved (by rw [hv]; exact Vm.Alike.refl _)⟩
  have h1 := nestW_ok q hq
  have h2 := h.2.1 q hq
  cases q <;> first | exact va_Nw.same rfl hv.symm h2 | (simp [isNest] at h1; done)
/-- where a method stands: program, launch, environment, room, start, method, arguments, frames below, its code; the world; the heap at its start; its locals -/
abbrev CT : Type := Program × Launch × Env × Room × State × MethodId × Array Value × List Frame × Method × Code × WT × AH × Nat
abbrev lx (x : CT) : Launch := x.2.1
abbrev wx (x : CT) : WT := x.2.2.2.2.2.2.2.2.2.2.1
abbrev zx (x : CT) : Nat := x.2.2.2.2.2.2.2.2.2.2.1.1
def Qx (w : WT) {α : Type} (K : α → Option Value) (r : α) (h' : AH) : Array Value → State → Outcome → State → Prop := fun _ st o t => o = .returned (K r) ∧ HR w h' t.heap ∧ va_F (fz w) st t
/-- the methods that catch, and their tables -/
def catT (own nm : String) : Option (List (Nat × Nat × Nat × Nat)) := if own = "FallTrialsLaw" ∧ nm = "reason" then some [(0, 14, 17, 13)] else if own = "FallTrialsLaw" ∧ nm = "led" then some [(0, 9, 12, 13)] else if own = "FallTrialsModel" ∧ nm = "book" then some [(54, 62, 65, 13)] else none
def tabT (own nm : String) (c : Code) : Prop := match catT own nm with
  | none => c.exceptionTable.toList = []
  | some hh => c.exceptionTable.toList = tableOf hh
/-- of a method: its bytes, class, name, answer, frames, words, locals -/
abbrev MT : Type := ByteArray × String × String × Option FieldType × Nat × Nat × Nat
def Cx (x : CT) (q : MT) : Prop :=
  match x, q with
  | (p, l, e, R, s, m, args, below, meth, c, w, h0, nL), (cc, own, nm, ret, F, L, nl) => p.tables.exec = Jvm.exec ∧ c.code = cc ∧ c.maxLocals = nL ∧ s.vm.findClass own = some m.cls ∧ (∀ q ∈ WG, q.before args s = true) ∧ meth.locks = false ∧ meth.sig.returnType = ret ∧ R.frames = F ∧ R.locals = L ∧ nL = nl ∧ (s.heap.size = w.1 + xn h0 ∧ 1 ≤ xn h0 ∧ tabT own nm c ∧ l.stackTraces = false) ∧ meth.name = nm ∧ Kx w s ∧ SK w s s.heap
def J (x : CT) (q : MT) {α : Type} (K : CT → α → AH → State → Prop) (pc : Nat) (lv : List (Nat × Value)) (st : List Value) (h : AH) (f : Option (α × AH)) : Prop :=
  match x with
  | (p, l, e, R, s, m, args, below, meth, c, w, h0, nL) =>
    ∀ (r : α) (h' : AH), f = some (r, h') → (xn h ≤ xn h' ∧ xs h ≤ xs h') ∧ (Cx x q → xn h' - xn h0 ≤ R.cells → xs h' - xs h0 ≤ R.slots → xn h0 ≤ xn h → xs h0 ≤ xs h →
      ∀ (H : Heap) (locs : List Loc) (ls : Array Slot), HR w h H → va_S (fz w) s.heap H locs → lv_has ls nL lv →
        W p l e R s m args below meth c H locs (xn h - xn h0) (xs h - xs h0) (K x r h') (F0 m pc ls st))
/-- what is known of a class -/
def KC (ci : Nat) (Cn : String) (T : u_T) (N : Nat) (ty : Nat → FieldType) : Prop := ci < 16 ∧ vwCl[ci]? = some (Cn, T, N) ∧ nf ci = N ∧ (∀ w ∈ u_ws Cn T N, w ∈ WG) ∧ (∀ k, k < N → parseFieldDescriptor (T k).2.2.1 = some (ty k)) ∧ (∀ a, a < N → ∀ b, b < N → a ≠ b → (T a).2.1 ≠ (T b).2.1) ∧ (∀ k, k < N → defaultValue (ty k) = if ft ci k = 1 then .long 0 else if ft ci k = 2 then .null else .int 0)
section ROWS
variable {x : CT} {α β : Type} {K : CT → α → AH → State → Prop} {cc : ByteArray} {own nm : String} {ret : Option FieldType} {F L nl : Nat} {pc : Nat} {lv lv' : List (Nat × Value)} {st : List Value} {h : AH} {f : Option (α × AH)}
theorem J.goes {pc2 : Nat} {st2 : List Value} 
    (hW : ∀ (p : Program) (l : Launch) (e : Env) (R : Room) (s : State) (m : MethodId) (args : Array Value) (below : List Frame) (meth : Method) (c : Code) (H : Heap) (locs : List Loc) (cells slots : Nat) (Q : State → Prop) (ls : Array Slot), p.tables.exec = Jvm.exec → c.code = cc → s.vm.findClass own = some m.cls → (∀ q ∈ WG, q.before args s = true) → lv_has ls nl lv → W p l e R s m args below meth c H locs cells slots Q (F0 m pc2 ls st2) → W p l e R s m args below meth c H locs cells slots Q (F0 m pc ls st))
    (k : J x (cc, own, nm, ret, F, L, nl) K pc2 lv st2 h f) : J x (cc, own, nm, ret, F, L, nl) K pc lv st h f := by
  obtain ⟨p, l, e, R, s, m, args, below, meth, c, w, h0, nL⟩ := x
  intro r h' ef
  obtain ⟨q1, q2⟩ := k r h' ef
  exact ⟨q1, fun C c1 c2 c3 c4 H locs ls hH hS hl => by
    obtain ⟨hx, hb, hml, hown, hts, -, -, -, -, rfl, -⟩ := id C
    exact hW p l e R s m args below meth c H locs _ _ _ ls hx hb hown hts hl (q2 C c1 c2 c3 c4 H locs ls hH hS hl)⟩
theorem J.stores {pc2 : Nat} {st2 : List Value} 
    (hW : ∀ (p : Program) (l : Launch) (e : Env) (R : Room) (s : State) (m : MethodId) (args : Array Value) (below : List Frame) (meth : Method) (c : Code) (H : Heap) (locs : List Loc) (cells slots : Nat) (Q : State → Prop) (ls : Array Slot), p.tables.exec = Jvm.exec → c.code = cc → lv_has ls nl lv → (∀ ls', lv_has ls' nl lv' → W p l e R s m args below meth c H locs cells slots Q (F0 m pc2 ls' st2)) → W p l e R s m args below meth c H locs cells slots Q (F0 m pc ls st))
    (k : J x (cc, own, nm, ret, F, L, nl) K pc2 lv' st2 h f) : J x (cc, own, nm, ret, F, L, nl) K pc lv st h f := by
  obtain ⟨p, l, e, R, s, m, args, below, meth, c, w, h0, nL⟩ := x
  intro r h' ef
  obtain ⟨q1, q2⟩ := k r h' ef
  exact ⟨q1, fun C c1 c2 c3 c4 H locs ls hH hS hl => by
    obtain ⟨hx, hb, hml, hown, hts, -, -, -, -, rfl, -⟩ := id C
    exact hW p l e R s m args below meth c H locs _ _ _ ls hx hb hl (fun ls' hl' => q2 C c1 c2 c3 c4 H locs ls' hH hS hl')⟩
theorem J.two {pc1 pc2 : Nat} {st2 : List Value} {c0 : Prop} [Decidable c0] {f1 f2 : Option (α × AH)} 
    (hW : ∀ (p : Program) (l : Launch) (e : Env) (R : Room) (s : State) (m : MethodId) (args : Array Value) (below : List Frame) (meth : Method) (c : Code) (H : Heap) (locs : List Loc) (cells slots : Nat) (Q : State → Prop) (ls : Array Slot), p.tables.exec = Jvm.exec → c.code = cc → (c0 → W p l e R s m args below meth c H locs cells slots Q (F0 m pc1 ls st2)) → (¬ c0 → W p l e R s m args below meth c H locs cells slots Q (F0 m pc2 ls st2)) → W p l e R s m args below meth c H locs cells slots Q (F0 m pc ls st))
    (k1 : J x (cc, own, nm, ret, F, L, nl) K pc1 lv st2 h f1) (k2 : J x (cc, own, nm, ret, F, L, nl) K pc2 lv st2 h f2) : J x (cc, own, nm, ret, F, L, nl) K pc lv st h (if c0 then f1 else f2) := by
  obtain ⟨p, l, e, R, s, m, args, below, meth, c, w, h0, nL⟩ := x
  intro r h' ef
  by_cases hc : c0
  · rw [if_pos hc] at ef
    obtain ⟨q1, q2⟩ := k1 r h' ef
    exact ⟨q1, fun C c1 c2 c3 c4 H locs ls hH hS hl => by
    obtain ⟨hx, hb, hml, hown, hts, -, -, -, -, rfl, -⟩ := id C
    exact hW p l e R s m args below meth c H locs _ _ _ ls hx hb (fun _ => q2 C c1 c2 c3 c4 H locs ls hH hS hl) (fun n => absurd hc n)⟩
  · rw [if_neg hc] at ef
    obtain ⟨q1, q2⟩ := k2 r h' ef
    exact ⟨q1, fun C c1 c2 c3 c4 H locs ls hH hS hl => by
    obtain ⟨hx, hb, hml, hown, hts, -, -, -, -, rfl, -⟩ := id C
    exact hW p l e R s m args below meth c H locs _ _ _ ls hx hb (fun y => absurd y hc) (fun _ => q2 C c1 c2 c3 c4 H locs ls hH hS hl)⟩
theorem J_G {c0 : Prop} [Decidable c0] (k : c0 → J x (cc, own, nm, ret, F, L, nl) K pc lv st h f) : J x (cc, own, nm, ret, F, L, nl) K pc lv st h (G c0 f) := by
  obtain ⟨p, l, e, R, s, m, args, below, meth, c, w, h0, nL⟩ := x
  intro r h' ef
  obtain ⟨hc, ef⟩ := G_some ef
  exact k hc r h' ef
theorem J_LTi {v : Int32} {g : Int32 → Option (α × AH)} (k : ∀ v, J x (cc, own, nm, ret, F, L, nl) K pc lv (.int v :: st) h (g v)) : J x (cc, own, nm, ret, F, L, nl) K pc lv (.int v :: st) h (LT v g) := k v
theorem J_LTl {v : Int64} {g : Int64 → Option (α × AH)} (k : ∀ v, J x (cc, own, nm, ret, F, L, nl) K pc lv (.long v :: st) h (g v)) : J x (cc, own, nm, ret, F, L, nl) K pc lv (.long v :: st) h (LT v g) := k v
theorem J_LTr {z v : Nat} {g : Nat → Option (α × AH)} (k : ∀ v, J x (cc, own, nm, ret, F, L, nl) K pc lv (rv z v :: st) h (g v)) : J x (cc, own, nm, ret, F, L, nl) K pc lv (rv z v :: st) h (LT v g) := k v
theorem J_LTh {g : AH → Option (α × AH)} (k : ∀ h, J x (cc, own, nm, ret, F, L, nl) K pc lv st h (g h)) : J x (cc, own, nm, ret, F, L, nl) K pc lv st h (LT h g) := k h
theorem J_none : J x (cc, own, nm, ret, F, L, nl) K pc lv st h none := by
  obtain ⟨p, l, e, R, s, m, args, below, meth, c, w, h0, nL⟩ := x
  intro r h' ef
  cases ef
theorem J_sub (ks : List Nat) (hl : lv_pick lv ks = lv') (k : J x (cc, own, nm, ret, F, L, nl) K pc lv' st h f) : J x (cc, own, nm, ret, F, L, nl) K pc lv st h f := by
  obtain ⟨p, l, e, R, s, m, args, below, meth, c, w, h0, nL⟩ := x
  intro r h' ef
  obtain ⟨q1, q2⟩ := k r h' ef
  exact ⟨q1, fun C c1 c2 c3 c4 H locs ls hH hS hl' => q2 C c1 c2 c3 c4 H locs ls hH hS (lv_sub hl' ks hl)⟩
theorem rv_is {z a : Nat} : rv z a = .null ∨ ∃ q, rv z a = .ref q := by
  by_cases e : a = 0
  · subst e; exact Or.inl rfl
  · exact Or.inr ⟨_, rv_pos e⟩
theorem J_iconst {n : Int} {v : Int32} (hd : decode cc pc = .ok (.iconst n, 1)) (hv : Int32.ofInt n = v) (k : J x (cc, own, nm, ret, F, L, nl) K (pc + 1) lv (.int v :: st) h f) : J x (cc, own, nm, ret, F, L, nl) K pc lv (st) h f :=
  J.goes (fun _ _ _ _ _ _ _ _ _ _ _ _ _ _ _ _ hx hb hown hts hl k => lv_iconst hx hb hd hv k) k
theorem J_bipush {n : Int} {v : Int32} (hd : decode cc pc = .ok (.bipush n, 2)) (hv : (Int8.ofInt n).toInt32 = v) (k : J x (cc, own, nm, ret, F, L, nl) K (pc + 2) lv (.int v :: st) h f) : J x (cc, own, nm, ret, F, L, nl) K pc lv (st) h f :=
  J.goes (fun _ _ _ _ _ _ _ _ _ _ _ _ _ _ _ _ hx hb hown hts hl k => lv_bipush hx hb hd hv k) k
theorem J_sipush {n : Int} {v : Int32} (hd : decode cc pc = .ok (.sipush n, 3)) (hv : (Int16.ofInt n).toInt32 = v) (k : J x (cc, own, nm, ret, F, L, nl) K (pc + 3) lv (.int v :: st) h f) : J x (cc, own, nm, ret, F, L, nl) K pc lv (st) h f :=
  J.goes (fun _ _ _ _ _ _ _ _ _ _ _ _ _ _ _ _ hx hb hown hts hl k => lv_sipush hx hb hd hv k) k
theorem J_lconst {n : Fin 2} {v : Int64} (hd : decode cc pc = .ok (.lconst n, 1)) (hv : Int64.ofNat (n : Nat) = v) (k : J x (cc, own, nm, ret, F, L, nl) K (pc + 1) lv (.long v :: st) h f) : J x (cc, own, nm, ret, F, L, nl) K pc lv (st) h f :=
  J.goes (fun _ _ _ _ _ _ _ _ _ _ _ _ _ _ _ _ hx hb hown hts hl k => lv_lconst hx hb hd hv k) k
theorem J_ldc {index : Nat} {v : Int32} (hd : decode cc pc = .ok (.ldc index, 2)) (hw : Cond.constant own index v ∈ WG) (k : J x (cc, own, nm, ret, F, L, nl) K (pc + 2) lv (.int v :: st) h f) : J x (cc, own, nm, ret, F, L, nl) K pc lv (st) h f :=
  J.goes (fun _ _ _ _ _ _ _ _ _ _ _ _ _ _ _ _ hx hb hown hts hl k => lv_ldc hx hb hown (hts _ hw) hd k) k
theorem J_ldcw {index : Nat} {v : Int32} (hd : decode cc pc = .ok (.ldc_w index, 3)) (hw : Cond.constant own index v ∈ WG) (k : J x (cc, own, nm, ret, F, L, nl) K (pc + 3) lv (.int v :: st) h f) : J x (cc, own, nm, ret, F, L, nl) K pc lv (st) h f :=
  J.goes (fun _ _ _ _ _ _ _ _ _ _ _ _ _ _ _ _ hx hb hown hts hl k => lv_ldcw hx hb hown (hts _ hw) hd k) k
theorem J_ldc2 {index : Nat} {v : Int64} (hd : decode cc pc = .ok (.ldc2_w index, 3)) (hw : Cond.constantLong own index v ∈ WG) (k : J x (cc, own, nm, ret, F, L, nl) K (pc + 3) lv (.long v :: st) h f) : J x (cc, own, nm, ret, F, L, nl) K pc lv (st) h f :=
  J.goes (fun _ _ _ _ _ _ _ _ _ _ _ _ _ _ _ _ hx hb hown hts hl k => lv_ldc2 hx hb hown (hts _ hw) hd k) k
theorem J_aconst_null  (hd : decode cc pc = .ok (.aconst_null, 1)) (k : J x (cc, own, nm, ret, F, L, nl) K (pc + 1) lv (.null :: st) h f) : J x (cc, own, nm, ret, F, L, nl) K pc lv (st) h f :=
  J.goes (fun _ _ _ _ _ _ _ _ _ _ _ _ _ _ _ _ hx hb hown hts hl k => lv_null hx hb hd k) k
theorem J_iload_n {i : Fin 4} {v : Int32} (q : Nat) (hd : decode cc pc = .ok (.iload_n i, 1)) (hq : lv[q]? = some ((i : Nat), .int v)) (k : J x (cc, own, nm, ret, F, L, nl) K (pc + 1) lv (.int v :: st) h f) : J x (cc, own, nm, ret, F, L, nl) K pc lv (st) h f :=
  J.goes (fun _ _ _ _ _ _ _ _ _ _ _ _ _ _ _ _ hx hb hown hts hl k => lv_iload_n hx hb hd rfl (lv_at hl q hq) k) k
theorem J_iload {i : Nat} {v : Int32} (q : Nat) (hd : decode cc pc = .ok (.iload i, 2)) (hq : lv[q]? = some (i, .int v)) (k : J x (cc, own, nm, ret, F, L, nl) K (pc + 2) lv (.int v :: st) h f) : J x (cc, own, nm, ret, F, L, nl) K pc lv (st) h f :=
  J.goes (fun _ _ _ _ _ _ _ _ _ _ _ _ _ _ _ _ hx hb hown hts hl k => lv_iload hx hb hd (lv_at hl q hq) k) k
theorem J_lload_n {i : Fin 4} {v : Int64} (q : Nat) (hd : decode cc pc = .ok (.lload_n i, 1)) (hq : lv[q]? = some ((i : Nat), .long v)) (k : J x (cc, own, nm, ret, F, L, nl) K (pc + 1) lv (.long v :: st) h f) : J x (cc, own, nm, ret, F, L, nl) K pc lv (st) h f :=
  J.goes (fun _ _ _ _ _ _ _ _ _ _ _ _ _ _ _ _ hx hb hown hts hl k => lv_lload_n hx hb hd rfl (lv_at hl q hq) k) k
theorem J_lload {i : Nat} {v : Int64} (q : Nat) (hd : decode cc pc = .ok (.lload i, 2)) (hq : lv[q]? = some (i, .long v)) (k : J x (cc, own, nm, ret, F, L, nl) K (pc + 2) lv (.long v :: st) h f) : J x (cc, own, nm, ret, F, L, nl) K pc lv (st) h f :=
  J.goes (fun _ _ _ _ _ _ _ _ _ _ _ _ _ _ _ _ hx hb hown hts hl k => lv_lload hx hb hd (lv_at hl q hq) k) k
theorem J_aload_n {i : Fin 4} {v : Value} (q : Nat) (hd : decode cc pc = .ok (.aload_n i, 1)) (hv : v = .null ∨ ∃ q, v = .ref q) (hq : lv[q]? = some ((i : Nat), v)) (k : J x (cc, own, nm, ret, F, L, nl) K (pc + 1) lv (v :: st) h f) : J x (cc, own, nm, ret, F, L, nl) K pc lv st h f := by
  rcases hv with rfl | ⟨a, rfl⟩
  · exact J.goes (fun _ _ _ _ _ _ _ _ _ _ _ _ _ _ _ _ hx hb hown hts hl k => lv_aload_nN hx hb hd rfl (lv_at hl q hq) k) k
  · exact J.goes (fun _ _ _ _ _ _ _ _ _ _ _ _ _ _ _ _ hx hb hown hts hl k => lv_aload_n hx hb hd rfl (lv_at hl q hq) k) k
theorem J_aload {i : Nat} {v : Value} (q : Nat) (hd : decode cc pc = .ok (.aload i, 2)) (hv : v = .null ∨ ∃ q, v = .ref q) (hq : lv[q]? = some (i, v)) (k : J x (cc, own, nm, ret, F, L, nl) K (pc + 2) lv (v :: st) h f) : J x (cc, own, nm, ret, F, L, nl) K pc lv st h f := by
  rcases hv with rfl | ⟨a, rfl⟩
  · exact J.goes (fun _ _ _ _ _ _ _ _ _ _ _ _ _ _ _ _ hx hb hown hts hl k => lv_aloadN hx hb hd (lv_at hl q hq) k) k
  · exact J.goes (fun _ _ _ _ _ _ _ _ _ _ _ _ _ _ _ _ hx hb hown hts hl k => lv_aload hx hb hd (lv_at hl q hq) k) k
/-- what is kept of the locals when place i is stored into -/
def SD (i : Nat) (lv lvr : List (Nat × Value)) : Prop := (∀ q ∈ lvr, q ∈ lv) ∧ ∀ q ∈ lvr, q.1 ≠ i ∧ (q.1 + 1 = i → q.2.category ≠ 2)
theorem pick_sub {lv lvr : List (Nat × Value)} (ks : List Nat) (h : lv_pick lv ks = lvr) : ∀ q ∈ lvr, q ∈ lv := by
  intro q hq
  rw [← h] at hq
  obtain ⟨k, -, hk⟩ := List.mem_filterMap.mp hq
  exact List.mem_of_getElem? hk
theorem SD.a {i : Nat} {lv lvr : List (Nat × Value)} (ks : List Nat) (h1 : lv_pick lv ks = lvr) (h2 : lvr.all (fun q => !(q.1 == i) && !(q.1 + 1 == i && q.2.category == 2)) = true) : SD i lv lvr := by
  refine ⟨pick_sub ks h1, fun q hq => ?_⟩
  have := List.all_eq_true.mp h2 q hq
  simp at this
  exact ⟨this.1, fun e => this.2.resolve_left (fun n => n e)⟩
theorem SD.c {i : Nat} {lv lvr : List (Nat × Value)} (ks : List Nat) (h1 : lv_pick lv ks = lvr) (h2 : lvr.all (fun q => !(q.1 == i)) = true) (p : Nat) {j : Nat} {v0 : Value} (h3 : lvr[p]? = some (j, v0)) (h4 : (lvr.eraseIdx p).all (fun q => !(q.1 + 1 == i)) = true) (h0 : v0.category = 1) : SD i lv lvr := by
  refine ⟨pick_sub ks h1, fun q hq => ?_⟩
  have h5 := List.all_eq_true.mp h2 q hq
  simp at h5
  refine ⟨h5, fun e => ?_⟩
  obtain ⟨n, hn⟩ := List.getElem?_of_mem hq
  by_cases hp : n = p
  · subst hp
    rw [h3] at hn
    cases hn
    rw [h0]; decide
  · have hm : q ∈ lvr.eraseIdx p := by
      rw [List.mem_eraseIdx_iff_getElem?]
      exact ⟨n, hp, hn⟩
    have h6 := List.all_eq_true.mp h4 q hm
    simp at h6
    exact absurd e h6
theorem SD.has1 {i nL : Nat} {lv lvr : List (Nat × Value)} {v : Value} {ls' : Array Slot} (hs : SD i lv lvr) (h : lv_has ls' nL ((i, v) :: lv.filter (fun q => !(q.1 == i) && !(q.1 + 1 == i && q.2.category == 2)))) : lv_has ls' nL ((i, v) :: lvr) := by
  refine ⟨h.1, h.2.1, fun q hq => h.2.2 q ?_⟩
  rcases List.mem_cons.mp hq with rfl | hq
  · exact List.mem_cons_self
  · refine List.mem_cons_of_mem _ (List.mem_filter.mpr ⟨hs.1 q hq, ?_⟩)
    obtain ⟨h1, h2⟩ := hs.2 q hq
    simp
    refine ⟨h1, ?_⟩
    by_cases e : q.1 + 1 = i
    · exact Or.inr (h2 e)
    · exact Or.inl e
theorem SD.has2 {i nL : Nat} {lv lvr : List (Nat × Value)} {v : Value} {ls' : Array Slot} (hs : SD i lv lvr) (h2 : lvr.all (fun q => !(q.1 == i + 1)) = true) (h : lv_has ls' nL ((i, v) :: lv.filter (fun q => !(q.1 == i) && (!(q.1 == i + 1) && !(q.1 + 1 == i && q.2.category == 2))))) : lv_has ls' nL ((i, v) :: lvr) := by
  refine ⟨h.1, h.2.1, fun q hq => h.2.2 q ?_⟩
  rcases List.mem_cons.mp hq with rfl | hq
  · exact List.mem_cons_self
  · refine List.mem_cons_of_mem _ (List.mem_filter.mpr ⟨hs.1 q hq, ?_⟩)
    obtain ⟨h1, h3⟩ := hs.2 q hq
    have h4 := List.all_eq_true.mp h2 q hq
    simp at h4 ⊢
    refine ⟨h1, h4, ?_⟩
    by_cases e : q.1 + 1 = i
    · exact Or.inr (h3 e)
    · exact Or.inl e
theorem J_istore {i : Nat} {v : Int32} {lvr : List (Nat × Value)} (hd : decode cc pc = .ok (.istore i, 2)) (hn : i < nl) (hs : SD i lv lvr) (k : J x (cc, own, nm, ret, F, L, nl) K (pc + 2) ((i, .int v) :: lvr) st h f) : J x (cc, own, nm, ret, F, L, nl) K pc lv (.int v :: st) h f :=
  J.stores (fun _ _ _ _ _ _ _ _ _ _ _ _ _ _ _ _ hx hb hl k => lv_istore hx hb hd hl hn rfl (fun ls' h => k ls' (hs.has1 h))) k
theorem J_lstore {i : Nat} {v : Int64} {lvr : List (Nat × Value)} (hd : decode cc pc = .ok (.lstore i, 2)) (hn : i + 1 < nl) (hs : SD i lv lvr) (h2 : lvr.all (fun q => !(q.1 == i + 1)) = true) (k : J x (cc, own, nm, ret, F, L, nl) K (pc + 2) ((i, .long v) :: lvr) st h f) : J x (cc, own, nm, ret, F, L, nl) K pc lv (.long v :: st) h f :=
  J.stores (fun _ _ _ _ _ _ _ _ _ _ _ _ _ _ _ _ hx hb hl k => lv_lstore hx hb hd hl hn rfl (fun ls' h => k ls' (hs.has2 h2 h))) k
theorem J_astore {i : Nat} {v : Value} {lvr : List (Nat × Value)} (hv : v = .null ∨ ∃ q, v = .ref q) (hd : decode cc pc = .ok (.astore i, 2)) (hn : i < nl) (hs : SD i lv lvr) (k : J x (cc, own, nm, ret, F, L, nl) K (pc + 2) ((i, v) :: lvr) st h f) : J x (cc, own, nm, ret, F, L, nl) K pc lv (v :: st) h f := by
  rcases hv with rfl | ⟨a, rfl⟩
  · exact J.stores (fun _ _ _ _ _ _ _ _ _ _ _ _ _ _ _ _ hx hb hl k => lv_astoreN hx hb hd hl hn rfl (fun ls' h => k ls' (hs.has1 h))) k
  · exact J.stores (fun _ _ _ _ _ _ _ _ _ _ _ _ _ _ _ _ hx hb hl k => lv_astore hx hb hd hl hn rfl (fun ls' h => k ls' (hs.has1 h))) k
theorem J_istore_n {i : Fin 4} {v : Int32} {lvr : List (Nat × Value)} (hd : decode cc pc = .ok (.istore_n i, 1)) (hn : (i : Nat) < nl) (hs : SD (i : Nat) lv lvr) (k : J x (cc, own, nm, ret, F, L, nl) K (pc + 1) (((i : Nat), .int v) :: lvr) st h f) : J x (cc, own, nm, ret, F, L, nl) K pc lv (.int v :: st) h f :=
  J.stores (fun _ _ _ _ _ _ _ _ _ _ _ _ _ _ _ _ hx hb hl k => lv_istore_n hx hb hd rfl hl hn rfl (fun ls' h => k ls' (hs.has1 h))) k
theorem J_lstore_n {i : Fin 4} {v : Int64} {lvr : List (Nat × Value)} (hd : decode cc pc = .ok (.lstore_n i, 1)) (hn : (i : Nat) + 1 < nl) (hs : SD (i : Nat) lv lvr) (h2 : lvr.all (fun q => !(q.1 == (i : Nat) + 1)) = true) (k : J x (cc, own, nm, ret, F, L, nl) K (pc + 1) (((i : Nat), .long v) :: lvr) st h f) : J x (cc, own, nm, ret, F, L, nl) K pc lv (.long v :: st) h f :=
  J.stores (fun _ _ _ _ _ _ _ _ _ _ _ _ _ _ _ _ hx hb hl k => lv_lstore_n hx hb hd rfl hl hn rfl (fun ls' h => k ls' (hs.has2 h2 h))) k
theorem J_astore_n {i : Fin 4} {v : Value} {lvr : List (Nat × Value)} (hv : v = .null ∨ ∃ q, v = .ref q) (hd : decode cc pc = .ok (.astore_n i, 1)) (hn : (i : Nat) < nl) (hs : SD (i : Nat) lv lvr) (k : J x (cc, own, nm, ret, F, L, nl) K (pc + 1) (((i : Nat), v) :: lvr) st h f) : J x (cc, own, nm, ret, F, L, nl) K pc lv (v :: st) h f := by
  rcases hv with rfl | ⟨a, rfl⟩
  · exact J.stores (fun _ _ _ _ _ _ _ _ _ _ _ _ _ _ _ _ hx hb hl k => lv_astore_nN hx hb hd rfl hl hn rfl (fun ls' h => k ls' (hs.has1 h))) k
  · exact J.stores (fun _ _ _ _ _ _ _ _ _ _ _ _ _ _ _ _ hx hb hl k => lv_astore_n hx hb hd rfl hl hn rfl (fun ls' h => k ls' (hs.has1 h))) k
theorem J_iinc {i : Nat} {n : Int} {v u : Int32} {lvr : List (Nat × Value)} (q : Nat) (hd : decode cc pc = .ok (.iinc i n, 3)) (hq : lv[q]? = some (i, .int v)) (hv : v + Int32.ofInt n = u) (hn : i < nl) (hs : SD i lv lvr) (k : J x (cc, own, nm, ret, F, L, nl) K (pc + 3) ((i, .int u) :: lvr) st h f) : J x (cc, own, nm, ret, F, L, nl) K pc lv st h f :=
  J.stores (fun _ _ _ _ _ _ _ _ _ _ _ _ _ _ _ _ hx hb hl k => lv_iinc hx hb hd hl (k := q) hq hv hn rfl (fun ls' h => k ls' (hs.has1 h))) k
theorem J_iincL {i : Nat} {n : Int} {v u : Int32} {lvr : List (Nat × Value)} {g : Int32 → Option (α × AH)} (q : Nat) (hd : decode cc pc = .ok (.iinc i n, 3)) (hq : lv[q]? = some (i, .int v)) (hv : v + Int32.ofInt n = u) (hn : i < nl) (hs : SD i lv lvr) (k : ∀ u, J x (cc, own, nm, ret, F, L, nl) K (pc + 3) ((i, .int u) :: lvr) st h (g u)) : J x (cc, own, nm, ret, F, L, nl) K pc lv st h (LT u g) :=
  J_iinc q hd hq hv hn hs (k u)
theorem J_iadd {a b : Int32} (hd : decode cc pc = .ok (.iadd, 1)) (k : J x (cc, own, nm, ret, F, L, nl) K (pc + 1) lv (.int (a + b) :: st) h f) : J x (cc, own, nm, ret, F, L, nl) K pc lv (.int b :: .int a :: st) h f :=
  J.goes (fun _ _ _ _ _ _ _ _ _ _ _ _ _ _ _ _ hx hb hown hts hl k => lv_iadd hx hb hd k) k
theorem J_isub {a b : Int32} (hd : decode cc pc = .ok (.isub, 1)) (k : J x (cc, own, nm, ret, F, L, nl) K (pc + 1) lv (.int (a - b) :: st) h f) : J x (cc, own, nm, ret, F, L, nl) K pc lv (.int b :: .int a :: st) h f :=
  J.goes (fun _ _ _ _ _ _ _ _ _ _ _ _ _ _ _ _ hx hb hown hts hl k => lv_isub hx hb hd k) k
theorem J_imul {a b : Int32} (hd : decode cc pc = .ok (.imul, 1)) (k : J x (cc, own, nm, ret, F, L, nl) K (pc + 1) lv (.int (a * b) :: st) h f) : J x (cc, own, nm, ret, F, L, nl) K pc lv (.int b :: .int a :: st) h f :=
  J.goes (fun _ _ _ _ _ _ _ _ _ _ _ _ _ _ _ _ hx hb hown hts hl k => lv_imul hx hb hd k) k
theorem J_iand {a b : Int32} (hd : decode cc pc = .ok (.iand, 1)) (k : J x (cc, own, nm, ret, F, L, nl) K (pc + 1) lv (.int (a &&& b) :: st) h f) : J x (cc, own, nm, ret, F, L, nl) K pc lv (.int b :: .int a :: st) h f :=
  J.goes (fun _ _ _ _ _ _ _ _ _ _ _ _ _ _ _ _ hx hb hown hts hl k => lv_iand hx hb hd k) k
theorem J_ior {a b : Int32} (hd : decode cc pc = .ok (.ior, 1)) (k : J x (cc, own, nm, ret, F, L, nl) K (pc + 1) lv (.int (a ||| b) :: st) h f) : J x (cc, own, nm, ret, F, L, nl) K pc lv (.int b :: .int a :: st) h f :=
  J.goes (fun _ _ _ _ _ _ _ _ _ _ _ _ _ _ _ _ hx hb hown hts hl k => lv_ior hx hb hd k) k
theorem J_ixor {a b : Int32} (hd : decode cc pc = .ok (.ixor, 1)) (k : J x (cc, own, nm, ret, F, L, nl) K (pc + 1) lv (.int (a ^^^ b) :: st) h f) : J x (cc, own, nm, ret, F, L, nl) K pc lv (.int b :: .int a :: st) h f :=
  J.goes (fun _ _ _ _ _ _ _ _ _ _ _ _ _ _ _ _ hx hb hown hts hl k => lv_ixor hx hb hd k) k
theorem J_ishl {a b : Int32} (hd : decode cc pc = .ok (.ishl, 1)) (k : J x (cc, own, nm, ret, F, L, nl) K (pc + 1) lv (.int (a <<< (b &&& 31)) :: st) h f) : J x (cc, own, nm, ret, F, L, nl) K pc lv (.int b :: .int a :: st) h f :=
  J.goes (fun _ _ _ _ _ _ _ _ _ _ _ _ _ _ _ _ hx hb hown hts hl k => lv_ishl hx hb hd k) k
theorem J_ishr {a b : Int32} (hd : decode cc pc = .ok (.ishr, 1)) (k : J x (cc, own, nm, ret, F, L, nl) K (pc + 1) lv (.int (a >>> (b &&& 31)) :: st) h f) : J x (cc, own, nm, ret, F, L, nl) K pc lv (.int b :: .int a :: st) h f :=
  J.goes (fun _ _ _ _ _ _ _ _ _ _ _ _ _ _ _ _ hx hb hown hts hl k => lv_ishr hx hb hd k) k
theorem J_idiv {a b : Int32} (hd : decode cc pc = .ok (.idiv, 1)) (hne : ¬ b = 0) (k : J x (cc, own, nm, ret, F, L, nl) K (pc + 1) lv (.int (a / b) :: st) h f) : J x (cc, own, nm, ret, F, L, nl) K pc lv (.int b :: .int a :: st) h f :=
  J.goes (fun _ _ _ _ _ _ _ _ _ _ _ _ _ _ _ _ hx hb hown hts hl k => lv_idiv hx hb hd hne k) k
theorem J_irem {a b : Int32} (hd : decode cc pc = .ok (.irem, 1)) (hne : ¬ b = 0) (k : J x (cc, own, nm, ret, F, L, nl) K (pc + 1) lv (.int (a - a / b * b) :: st) h f) : J x (cc, own, nm, ret, F, L, nl) K pc lv (.int b :: .int a :: st) h f :=
  J.goes (fun _ _ _ _ _ _ _ _ _ _ _ _ _ _ _ _ hx hb hown hts hl k => lv_irem hx hb hd hne k) k
theorem J_ladd {a b : Int64} (hd : decode cc pc = .ok (.ladd, 1)) (k : J x (cc, own, nm, ret, F, L, nl) K (pc + 1) lv (.long (a + b) :: st) h f) : J x (cc, own, nm, ret, F, L, nl) K pc lv (.long b :: .long a :: st) h f :=
  J.goes (fun _ _ _ _ _ _ _ _ _ _ _ _ _ _ _ _ hx hb hown hts hl k => lv_ladd hx hb hd k) k
theorem J_lsub {a b : Int64} (hd : decode cc pc = .ok (.lsub, 1)) (k : J x (cc, own, nm, ret, F, L, nl) K (pc + 1) lv (.long (a - b) :: st) h f) : J x (cc, own, nm, ret, F, L, nl) K pc lv (.long b :: .long a :: st) h f :=
  J.goes (fun _ _ _ _ _ _ _ _ _ _ _ _ _ _ _ _ hx hb hown hts hl k => lv_lsub hx hb hd k) k
theorem J_lmul {a b : Int64} (hd : decode cc pc = .ok (.lmul, 1)) (k : J x (cc, own, nm, ret, F, L, nl) K (pc + 1) lv (.long (a * b) :: st) h f) : J x (cc, own, nm, ret, F, L, nl) K pc lv (.long b :: .long a :: st) h f :=
  J.goes (fun _ _ _ _ _ _ _ _ _ _ _ _ _ _ _ _ hx hb hown hts hl k => lv_lmul hx hb hd k) k
theorem J_land {a b : Int64} (hd : decode cc pc = .ok (.land, 1)) (k : J x (cc, own, nm, ret, F, L, nl) K (pc + 1) lv (.long (a &&& b) :: st) h f) : J x (cc, own, nm, ret, F, L, nl) K pc lv (.long b :: .long a :: st) h f :=
  J.goes (fun _ _ _ _ _ _ _ _ _ _ _ _ _ _ _ _ hx hb hown hts hl k => lv_land hx hb hd k) k
theorem J_lor {a b : Int64} (hd : decode cc pc = .ok (.lor, 1)) (k : J x (cc, own, nm, ret, F, L, nl) K (pc + 1) lv (.long (a ||| b) :: st) h f) : J x (cc, own, nm, ret, F, L, nl) K pc lv (.long b :: .long a :: st) h f :=
  J.goes (fun _ _ _ _ _ _ _ _ _ _ _ _ _ _ _ _ hx hb hown hts hl k => lv_lor hx hb hd k) k
theorem J_lxor {a b : Int64} (hd : decode cc pc = .ok (.lxor, 1)) (k : J x (cc, own, nm, ret, F, L, nl) K (pc + 1) lv (.long (a ^^^ b) :: st) h f) : J x (cc, own, nm, ret, F, L, nl) K pc lv (.long b :: .long a :: st) h f :=
  J.goes (fun _ _ _ _ _ _ _ _ _ _ _ _ _ _ _ _ hx hb hown hts hl k => lv_lxor hx hb hd k) k
theorem J_ineg {a : Int32} (hd : decode cc pc = .ok (.ineg, 1)) (k : J x (cc, own, nm, ret, F, L, nl) K (pc + 1) lv (.int (-a) :: st) h f) : J x (cc, own, nm, ret, F, L, nl) K pc lv (.int a :: st) h f :=
  J.goes (fun _ _ _ _ _ _ _ _ _ _ _ _ _ _ _ _ hx hb hown hts hl k => lv_ineg hx hb hd k) k
theorem J_iushr {a b : Int32} (hd : decode cc pc = .ok (.iushr, 1)) (k : J x (cc, own, nm, ret, F, L, nl) K (pc + 1) lv (.int (a.toUInt32 >>> (b.toUInt32 &&& Int32.toUInt32 31)).toInt32 :: st) h f) : J x (cc, own, nm, ret, F, L, nl) K pc lv (.int b :: .int a :: st) h f :=
  J.goes (fun _ _ _ _ _ _ _ _ _ _ _ _ _ _ _ _ hx hb hown hts hl k => lv_iushr hx hb hd rfl k) k
theorem J_lushr {a : Int64} {b : Int32} (hd : decode cc pc = .ok (.lushr, 1)) (k : J x (cc, own, nm, ret, F, L, nl) K (pc + 1) lv (.long (a.toUInt64 >>> (b.toInt64.toUInt64 &&& Int64.toUInt64 63)).toInt64 :: st) h f) : J x (cc, own, nm, ret, F, L, nl) K pc lv (.int b :: .long a :: st) h f :=
  J.goes (fun _ _ _ _ _ _ _ _ _ _ _ _ _ _ _ _ hx hb hown hts hl k => lv_lushr hx hb hd rfl k) k
theorem J_lshl {a : Int64} {b : Int32} (hd : decode cc pc = .ok (.lshl, 1)) (k : J x (cc, own, nm, ret, F, L, nl) K (pc + 1) lv (.long (a <<< (b.toInt64 &&& 63)) :: st) h f) : J x (cc, own, nm, ret, F, L, nl) K pc lv (.int b :: .long a :: st) h f :=
  J.goes (fun _ _ _ _ _ _ _ _ _ _ _ _ _ _ _ _ hx hb hown hts hl k => lv_lshl hx hb hd rfl k) k
theorem J_i2l {a : Int32} (hd : decode cc pc = .ok (.i2l, 1)) (k : J x (cc, own, nm, ret, F, L, nl) K (pc + 1) lv (.long a.toInt64 :: st) h f) : J x (cc, own, nm, ret, F, L, nl) K pc lv (.int a :: st) h f :=
  J.goes (fun _ _ _ _ _ _ _ _ _ _ _ _ _ _ _ _ hx hb hown hts hl k => lv_i2l hx hb hd rfl k) k
theorem J_l2i {a : Int64} (hd : decode cc pc = .ok (.l2i, 1)) (k : J x (cc, own, nm, ret, F, L, nl) K (pc + 1) lv (.int a.toInt32 :: st) h f) : J x (cc, own, nm, ret, F, L, nl) K pc lv (.long a :: st) h f :=
  J.goes (fun _ _ _ _ _ _ _ _ _ _ _ _ _ _ _ _ hx hb hown hts hl k => lv_l2i hx hb hd rfl k) k
theorem J_i2b {a : Int32} (hd : decode cc pc = .ok (.i2b, 1)) (k : J x (cc, own, nm, ret, F, L, nl) K (pc + 1) lv (.int a.toInt8.toInt32 :: st) h f) : J x (cc, own, nm, ret, F, L, nl) K pc lv (.int a :: st) h f :=
  J.goes (fun _ _ _ _ _ _ _ _ _ _ _ _ _ _ _ _ hx hb hown hts hl k => lv_i2b hx hb hd rfl k) k
theorem J_lcmp {a b : Int64} (hd : decode cc pc = .ok (.lcmp, 1)) (k : J x (cc, own, nm, ret, F, L, nl) K (pc + 1) lv (.int (lg_cmp a b) :: st) h f) : J x (cc, own, nm, ret, F, L, nl) K pc lv (.long b :: .long a :: st) h f :=
  J.goes (fun _ _ _ _ _ _ _ _ _ _ _ _ _ _ _ _ hx hb hown hts hl k => W.lcmp hx hb hd k) k
theorem J_dup {v : Value} (hd : decode cc pc = .ok (.dup, 1)) (hv : v.category = 1) (k : J x (cc, own, nm, ret, F, L, nl) K (pc + 1) lv (v :: v :: st) h f) : J x (cc, own, nm, ret, F, L, nl) K pc lv (v :: st) h f :=
  J.goes (fun _ _ _ _ _ _ _ _ _ _ _ _ _ _ _ _ hx hb hown hts hl k => lv_dup hx hb hd hv k) k
theorem J_pop {v : Value} (hd : decode cc pc = .ok (.pop, 1)) (hv : v.category = 1) (k : J x (cc, own, nm, ret, F, L, nl) K (pc + 1) lv (st) h f) : J x (cc, own, nm, ret, F, L, nl) K pc lv (v :: st) h f :=
  J.goes (fun _ _ _ _ _ _ _ _ _ _ _ _ _ _ _ _ hx hb hown hts hl k => lv_pop hx hb hd hv k) k
theorem J_pop2 {v : Value} (hd : decode cc pc = .ok (.pop2, 1)) (hv : v.category = 2) (k : J x (cc, own, nm, ret, F, L, nl) K (pc + 1) lv (st) h f) : J x (cc, own, nm, ret, F, L, nl) K pc lv (v :: st) h f :=
  J.goes (fun _ _ _ _ _ _ _ _ _ _ _ _ _ _ _ _ hx hb hown hts hl k => lv_pop2_2 hx hb hd hv k) k
theorem J_dup_x1 {v u : Value} (hd : decode cc pc = .ok (.dup_x1, 1)) (hv : v.category = 1) (hu : u.category = 1) (k : J x (cc, own, nm, ret, F, L, nl) K (pc + 1) lv (v :: u :: v :: st) h f) : J x (cc, own, nm, ret, F, L, nl) K pc lv (v :: u :: st) h f :=
  J.goes (fun _ _ _ _ _ _ _ _ _ _ _ _ _ _ _ _ hx hb hown hts hl k => lv_dup_x1 hx hb hd hv hu k) k
theorem J_dup2 {v u : Value} (hd : decode cc pc = .ok (.dup2, 1)) (hv : v.category = 1) (hu : u.category = 1) (k : J x (cc, own, nm, ret, F, L, nl) K (pc + 1) lv (v :: u :: v :: u :: st) h f) : J x (cc, own, nm, ret, F, L, nl) K pc lv (v :: u :: st) h f :=
  J.goes (fun _ _ _ _ _ _ _ _ _ _ _ _ _ _ _ _ hx hb hown hts hl k => lv_dup2_11 hx hb hd hv hu k) k
theorem J_if_eq {a : Int32} {off : Int} {tgt : Nat} {f1 f2 : Option (α × AH)} (hd : decode cc pc = .ok (.ifCond .eq off, 3)) (ht : (pc : Int) + off = (tgt : Int)) (k1 : J x (cc, own, nm, ret, F, L, nl) K tgt lv st h f1) (k2 : J x (cc, own, nm, ret, F, L, nl) K (pc + 3) lv st h f2) : J x (cc, own, nm, ret, F, L, nl) K pc lv (.int a :: st) h (if a = 0 then f1 else f2) :=
  J.two (fun _ _ _ _ _ _ _ _ _ _ _ _ _ _ _ _ hx hb k1 k2 => lv_if_eq hx hb hd ht k1 k2) k1 k2
theorem J_if_lt {a : Int32} {off : Int} {tgt : Nat} {f1 f2 : Option (α × AH)} (hd : decode cc pc = .ok (.ifCond .lt off, 3)) (ht : (pc : Int) + off = (tgt : Int)) (k1 : J x (cc, own, nm, ret, F, L, nl) K tgt lv st h f1) (k2 : J x (cc, own, nm, ret, F, L, nl) K (pc + 3) lv st h f2) : J x (cc, own, nm, ret, F, L, nl) K pc lv (.int a :: st) h (if a < 0 then f1 else f2) :=
  J.two (fun _ _ _ _ _ _ _ _ _ _ _ _ _ _ _ _ hx hb k1 k2 => lv_if_lt hx hb hd ht k1 k2) k1 k2
theorem J_if_ge {a : Int32} {off : Int} {tgt : Nat} {f1 f2 : Option (α × AH)} (hd : decode cc pc = .ok (.ifCond .ge off, 3)) (ht : (pc : Int) + off = (tgt : Int)) (k1 : J x (cc, own, nm, ret, F, L, nl) K tgt lv st h f1) (k2 : J x (cc, own, nm, ret, F, L, nl) K (pc + 3) lv st h f2) : J x (cc, own, nm, ret, F, L, nl) K pc lv (.int a :: st) h (if 0 ≤ a then f1 else f2) :=
  J.two (fun _ _ _ _ _ _ _ _ _ _ _ _ _ _ _ _ hx hb k1 k2 => lv_if_ge hx hb hd ht k1 k2) k1 k2
theorem J_if_gt {a : Int32} {off : Int} {tgt : Nat} {f1 f2 : Option (α × AH)} (hd : decode cc pc = .ok (.ifCond .gt off, 3)) (ht : (pc : Int) + off = (tgt : Int)) (k1 : J x (cc, own, nm, ret, F, L, nl) K tgt lv st h f1) (k2 : J x (cc, own, nm, ret, F, L, nl) K (pc + 3) lv st h f2) : J x (cc, own, nm, ret, F, L, nl) K pc lv (.int a :: st) h (if 0 < a then f1 else f2) :=
  J.two (fun _ _ _ _ _ _ _ _ _ _ _ _ _ _ _ _ hx hb k1 k2 => lv_if_gt hx hb hd ht k1 k2) k1 k2
theorem J_if_le {a : Int32} {off : Int} {tgt : Nat} {f1 f2 : Option (α × AH)} (hd : decode cc pc = .ok (.ifCond .le off, 3)) (ht : (pc : Int) + off = (tgt : Int)) (k1 : J x (cc, own, nm, ret, F, L, nl) K tgt lv st h f1) (k2 : J x (cc, own, nm, ret, F, L, nl) K (pc + 3) lv st h f2) : J x (cc, own, nm, ret, F, L, nl) K pc lv (.int a :: st) h (if a ≤ 0 then f1 else f2) :=
  J.two (fun _ _ _ _ _ _ _ _ _ _ _ _ _ _ _ _ hx hb k1 k2 => lv_if_le hx hb hd ht k1 k2) k1 k2
theorem J_icmp_eq {a b : Int32} {off : Int} {tgt : Nat} {f1 f2 : Option (α × AH)} (hd : decode cc pc = .ok (.if_icmp .eq off, 3)) (ht : (pc : Int) + off = (tgt : Int)) (k1 : J x (cc, own, nm, ret, F, L, nl) K tgt lv st h f1) (k2 : J x (cc, own, nm, ret, F, L, nl) K (pc + 3) lv st h f2) : J x (cc, own, nm, ret, F, L, nl) K pc lv (.int b :: .int a :: st) h (if a = b then f1 else f2) :=
  J.two (fun _ _ _ _ _ _ _ _ _ _ _ _ _ _ _ _ hx hb k1 k2 => lv_icmp_eq hx hb hd ht k1 k2) k1 k2
theorem J_icmp_lt {a b : Int32} {off : Int} {tgt : Nat} {f1 f2 : Option (α × AH)} (hd : decode cc pc = .ok (.if_icmp .lt off, 3)) (ht : (pc : Int) + off = (tgt : Int)) (k1 : J x (cc, own, nm, ret, F, L, nl) K tgt lv st h f1) (k2 : J x (cc, own, nm, ret, F, L, nl) K (pc + 3) lv st h f2) : J x (cc, own, nm, ret, F, L, nl) K pc lv (.int b :: .int a :: st) h (if a < b then f1 else f2) :=
  J.two (fun _ _ _ _ _ _ _ _ _ _ _ _ _ _ _ _ hx hb k1 k2 => lv_icmp_lt hx hb hd ht k1 k2) k1 k2
theorem J_icmp_ge {a b : Int32} {off : Int} {tgt : Nat} {f1 f2 : Option (α × AH)} (hd : decode cc pc = .ok (.if_icmp .ge off, 3)) (ht : (pc : Int) + off = (tgt : Int)) (k1 : J x (cc, own, nm, ret, F, L, nl) K tgt lv st h f1) (k2 : J x (cc, own, nm, ret, F, L, nl) K (pc + 3) lv st h f2) : J x (cc, own, nm, ret, F, L, nl) K pc lv (.int b :: .int a :: st) h (if b ≤ a then f1 else f2) :=
  J.two (fun _ _ _ _ _ _ _ _ _ _ _ _ _ _ _ _ hx hb k1 k2 => lv_icmp_ge hx hb hd ht k1 k2) k1 k2
theorem J_icmp_gt {a b : Int32} {off : Int} {tgt : Nat} {f1 f2 : Option (α × AH)} (hd : decode cc pc = .ok (.if_icmp .gt off, 3)) (ht : (pc : Int) + off = (tgt : Int)) (k1 : J x (cc, own, nm, ret, F, L, nl) K tgt lv st h f1) (k2 : J x (cc, own, nm, ret, F, L, nl) K (pc + 3) lv st h f2) : J x (cc, own, nm, ret, F, L, nl) K pc lv (.int b :: .int a :: st) h (if b < a then f1 else f2) :=
  J.two (fun _ _ _ _ _ _ _ _ _ _ _ _ _ _ _ _ hx hb k1 k2 => lv_icmp_gt hx hb hd ht k1 k2) k1 k2
theorem J_icmp_le {a b : Int32} {off : Int} {tgt : Nat} {f1 f2 : Option (α × AH)} (hd : decode cc pc = .ok (.if_icmp .le off, 3)) (ht : (pc : Int) + off = (tgt : Int)) (k1 : J x (cc, own, nm, ret, F, L, nl) K tgt lv st h f1) (k2 : J x (cc, own, nm, ret, F, L, nl) K (pc + 3) lv st h f2) : J x (cc, own, nm, ret, F, L, nl) K pc lv (.int b :: .int a :: st) h (if a ≤ b then f1 else f2) :=
  J.two (fun _ _ _ _ _ _ _ _ _ _ _ _ _ _ _ _ hx hb k1 k2 => lv_icmp_le hx hb hd ht k1 k2) k1 k2
theorem J_if_ne {a : Int32} {off : Int} {tgt : Nat} {f1 f2 : Option (α × AH)} (hd : decode cc pc = .ok (.ifCond .ne off, 3)) (ht : (pc : Int) + off = (tgt : Int)) (k1 : J x (cc, own, nm, ret, F, L, nl) K tgt lv st h f1) (k2 : J x (cc, own, nm, ret, F, L, nl) K (pc + 3) lv st h f2) : J x (cc, own, nm, ret, F, L, nl) K pc lv (.int a :: st) h (if a = 0 then f2 else f1) :=
  J.two (fun _ _ _ _ _ _ _ _ _ _ _ _ _ _ _ _ hx hb k1 k2 => lv_if_ne hx hb hd ht k2 k1) k2 k1
theorem J_icmp_ne {a b : Int32} {off : Int} {tgt : Nat} {f1 f2 : Option (α × AH)} (hd : decode cc pc = .ok (.if_icmp .ne off, 3)) (ht : (pc : Int) + off = (tgt : Int)) (k1 : J x (cc, own, nm, ret, F, L, nl) K tgt lv st h f1) (k2 : J x (cc, own, nm, ret, F, L, nl) K (pc + 3) lv st h f2) : J x (cc, own, nm, ret, F, L, nl) K pc lv (.int b :: .int a :: st) h (if a = b then f2 else f1) :=
  J.two (fun _ _ _ _ _ _ _ _ _ _ _ _ _ _ _ _ hx hb k1 k2 => lv_icmp_ne hx hb hd ht k2 k1) k2 k1
theorem J_ifnull {z a : Nat} {off : Int} {tgt : Nat} {f1 f2 : Option (α × AH)} (hd : decode cc pc = .ok (.ifnull off, 3)) (ht : (pc : Int) + off = (tgt : Int)) (k1 : J x (cc, own, nm, ret, F, L, nl) K tgt lv st h f1) (k2 : J x (cc, own, nm, ret, F, L, nl) K (pc + 3) lv st h f2) : J x (cc, own, nm, ret, F, L, nl) K pc lv (rv z a :: st) h (if a = 0 then f1 else f2) := by
  by_cases e : a = 0
  · subst e
    exact J.goes (fun _ _ _ _ _ _ _ _ _ _ _ _ _ _ _ _ hx hb hown hts hl k => lv_ifnullN hx hb hd ht k) (by rw [if_pos rfl]; exact k1)
  · rw [if_neg e, rv_pos e]
    exact J.goes (fun _ _ _ _ _ _ _ _ _ _ _ _ _ _ _ _ hx hb hown hts hl k => lv_ifnull hx hb hd k) k2
theorem J_ifnonnull {z a : Nat} {off : Int} {tgt : Nat} {f1 f2 : Option (α × AH)} (hd : decode cc pc = .ok (.ifnonnull off, 3)) (ht : (pc : Int) + off = (tgt : Int)) (k1 : J x (cc, own, nm, ret, F, L, nl) K tgt lv st h f1) (k2 : J x (cc, own, nm, ret, F, L, nl) K (pc + 3) lv st h f2) : J x (cc, own, nm, ret, F, L, nl) K pc lv (rv z a :: st) h (if a = 0 then f2 else f1) := by
  by_cases e : a = 0
  · subst e
    exact J.goes (fun _ _ _ _ _ _ _ _ _ _ _ _ _ _ _ _ hx hb hown hts hl k => lv_ifnonnullN hx hb hd k) (by rw [if_pos rfl]; exact k2)
  · rw [if_neg e, rv_pos e]
    exact J.goes (fun _ _ _ _ _ _ _ _ _ _ _ _ _ _ _ _ hx hb hown hts hl k => lv_ifnonnull hx hb hd ht k) k1
theorem J_goto {off : Int} {tgt : Nat} (hd : decode cc pc = .ok (.goto off, 3)) (ht : (pc : Int) + off = (tgt : Int)) (k : J x (cc, own, nm, ret, F, L, nl) K tgt lv st h f) : J x (cc, own, nm, ret, F, L, nl) K pc lv st h f :=
  J.goes (fun _ _ _ _ _ _ _ _ _ _ _ _ _ _ _ _ hx hb hown hts hl k => lv_goto hx hb hd ht k) k
theorem J_tcase {d lo hi : Int} {offs : Array Int} {len : Nat} {a c0 : Int32} {off : Int} {tgt : Nat} {f1 f2 : Option (α × AH)} (hd : decode cc pc = .ok (.tableswitch d lo hi offs, len)) (h1 : ¬ c0.toInt < lo) (h2 : ¬ hi < c0.toInt) (ho : offs[(c0.toInt - lo).toNat]? = some off) (ht : (pc : Int) + off = (tgt : Int)) (k1 : J x (cc, own, nm, ret, F, L, nl) K tgt lv st h f1) (k2 : ¬ a = c0 → J x (cc, own, nm, ret, F, L, nl) K pc lv (.int a :: st) h f2) : J x (cc, own, nm, ret, F, L, nl) K pc lv (.int a :: st) h (if a = c0 then f1 else f2) := by
  by_cases e : a = c0
  · subst e
    rw [if_pos rfl]
    exact J.goes (fun _ _ _ _ _ _ _ _ _ _ _ _ _ _ _ _ hx hb hown hts hl k => lv_tableIn hx hb hd h1 h2 ho ht k) k1
  · rw [if_neg e]
    exact k2 e
theorem J_tdef {d lo hi : Int} {offs : Array Int} {len : Nat} {a : Int32} {tgt : Nat} (hd : decode cc pc = .ok (.tableswitch d lo hi offs, len)) (ha : a.toInt < lo ∨ hi < a.toInt) (ht : (pc : Int) + d = (tgt : Int)) (k : J x (cc, own, nm, ret, F, L, nl) K tgt lv st h f) : J x (cc, own, nm, ret, F, L, nl) K pc lv (.int a :: st) h f :=
  J.goes (fun _ _ _ _ _ _ _ _ _ _ _ _ _ _ _ _ hx hb hown hts hl k => lv_tableOut hx hb hd ha ht k) k
theorem J_lcase {d : Int} {ps : Array (Int × Int)} {len : Nat} {a c0 : Int32} {off : Int} {tgt : Nat} {f1 f2 : Option (α × AH)} (hd : decode cc pc = .ok (.lookupswitch d ps, len)) (hp : (ps.toList.zip (ps.toList.drop 1)).all (fun (a, next) => a.1 < next.1) = true) (ho : Op.lookupswitch.offset ps.toList d c0.toInt = off) (ht : (pc : Int) + off = (tgt : Int)) (k1 : J x (cc, own, nm, ret, F, L, nl) K tgt lv st h f1) (k2 : ¬ a = c0 → J x (cc, own, nm, ret, F, L, nl) K pc lv (.int a :: st) h f2) : J x (cc, own, nm, ret, F, L, nl) K pc lv (.int a :: st) h (if a = c0 then f1 else f2) := by
  by_cases e : a = c0
  · subst e
    rw [if_pos rfl]
    exact J.goes (fun _ _ _ _ _ _ _ _ _ _ _ _ _ _ _ _ hx hb hown hts hl k => lv_lookup hx hb hd hp ho ht k) k1
  · rw [if_neg e]
    exact k2 e
theorem J_ldef {d : Int} {ps : Array (Int × Int)} {len : Nat} {a : Int32} {tgt : Nat} (hd : decode cc pc = .ok (.lookupswitch d ps, len)) (hp : (ps.toList.zip (ps.toList.drop 1)).all (fun (a, next) => a.1 < next.1) = true) (ho : Op.lookupswitch.offset ps.toList d a.toInt = d) (ht : (pc : Int) + d = (tgt : Int)) (k : J x (cc, own, nm, ret, F, L, nl) K tgt lv st h f) : J x (cc, own, nm, ret, F, L, nl) K pc lv (.int a :: st) h f :=
  J.goes (fun _ _ _ _ _ _ _ _ _ _ _ _ _ _ _ _ hx hb hown hts hl k => lv_lookup hx hb hd hp ho ht k) k
theorem ne_toInt {a c0 : Int32} (h : ¬ a = c0) : a.toInt ≠ c0.toInt := fun e => h (Int32.toInt_inj.mp e)
def sv (w : WT) (i : Nat) : Value := .ref (w.2.2.2.1 i)
theorem sv_is {w : WT} {i : Nat} : sv w i = .null ∨ ∃ q, sv w i = .ref q := Or.inr ⟨_, rfl⟩
end ROWS
