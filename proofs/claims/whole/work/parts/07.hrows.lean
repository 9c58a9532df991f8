/-! rows that read and write the heap -/
theorem ce_obj {z : Nat} {cy : Nat → ClassId} {h : AH} {a ci : Nat} (g : xc h a = ci) (hi : ci < 16) : ce z cy h a = .inr (ci, fl z h a) := by
  unfold ce
  rw [g, if_pos hi]
theorem ce_J {z : Nat} {cy : Nat → ClassId} {h : AH} {a : Nat} (g : xc h a = 17) : ce z cy h a = .inl (cy 17, xz h a, .inr (.inl (xL h a))) := by
  unfold ce
  rw [g, if_neg (by decide), if_pos rfl]
theorem ce_I {z : Nat} {cy : Nat → ClassId} {h : AH} {a t : Nat} (g : xc h a = t) (h1 : ¬ t < 16) (h2 : ¬ t = 17) (h3 : t ≤ 19) : ce z cy h a = .inl (cy t, xz h a, .inl (xI h a)) := by
  unfold ce
  rw [g, if_neg h1, if_neg h2, if_pos h3]
theorem ce_R {z : Nat} {cy : Nat → ClassId} {h : AH} {a t : Nat} (g : xc h a = t) (h1 : ¬ t < 16) (h2 : ¬ t = 17) (h3 : ¬ t ≤ 19) : ce z cy h a = .inl (cy t, xz h a, .inr (.inr (.inr (.inr (fun j => ro z (xR h a j)))))) := by
  unfold ce
  rw [g, if_neg h1, if_neg h2, if_neg h3]
theorem fl_len {z : Nat} {h : AH} {a ci : Nat} (g : xc h a = ci) : (fl z h a).length = nf ci := by
  unfold fl
  rw [List.length_map, List.length_range, g]
theorem fl_get {z : Nat} {h : AH} {a ci k : Nat} (g : xc h a = ci) (hk : k < nf ci) : (fl z h a)[k]? = some (fv z h a (ft ci k) k) := by
  unfold fl
  rw [g, List.getElem?_map, List.getElem?_range hk]
  rfl
theorem fl_set {z : Nat} {h h2 : AH} {a ci k : Nat} {v : Value} (g : xc h a = ci) (g2 : xc h2 a = ci) (hk : k < nf ci) (hv : fv z h2 a (ft ci k) k = v) (ho : ∀ j, j ≠ k → fv z h2 a (ft ci j) j = fv z h a (ft ci j) j) : fl z h2 a = (fl z h a).set k v := by
  apply List.ext_getElem?
  intro i
  by_cases hi : k = i
  · subst hi
    rw [fl_get g2 hk, List.getElem?_set_self (by rw [fl_len g]; exact hk), hv]
  · rw [List.getElem?_set_ne hi]
    by_cases hl : i < nf ci
    · rw [fl_get g2 hl, fl_get g hl, ho i (Ne.symm hi)]
    · rw [List.getElem?_eq_none (by rw [fl_len g2]; omega), List.getElem?_eq_none (by rw [fl_len g]; omega)]
theorem va_S.trans2 {A : Nat → Prop} {H0 H H1 : Heap} {locs locs1 : List Loc} (h : va_S A H0 H locs) (h1 : va_S A H H1 locs1) : va_S A H0 H1 locs1 :=
  ⟨Nat.le_trans h.1 h1.1, fun q a b => (h1.2.1 q (Nat.lt_of_lt_of_le a h.1) b).trans (h.2.1 q a b), h1.2.2⟩
section HROWS
variable {x : CT} {α β : Type} {K : CT → α → AH → State → Prop} {cc : ByteArray} {own nm : String} {ret : Option FieldType} {F L nl : Nat} {pc : Nat} {lv lv' : List (Nat × Value)} {st : List Value} {h : AH} {f : Option (α × AH)}
/-- a read: the heap stays -/
theorem J.reads {pc2 : Nat} {s1 s2 : Nat → List Value} {a : Nat} (g : xc h a < 23)
    (hW : ∀ (p : Program) (l : Launch) (e : Env) (R : Room) (s : State) (m : MethodId) (args : Array Value) (below : List Frame) (meth : Method) (c : Code) (w : WT) (H : Heap) (locs : List Loc) (cells slots : Nat) (Q : State → Prop) (ls : Array Slot) (q0 : Nat), p.tables.exec = Jvm.exec → c.code = cc → s.vm.findClass own = some m.cls → (∀ q ∈ WG, q.before args s = true) → Kx w s →
      va_P w.2.1 vwCl (pw w.1 w.2.2.1 h) H → (pw w.1 w.2.2.1 h)[q0]? = some (w.1 + a, ce w.1 w.2.2.1 h a) → rv w.1 a = .ref (w.1 + a) → W p l e R s m args below meth c H locs cells slots Q (F0 m pc2 ls (s2 w.1)) → W p l e R s m args below meth c H locs cells slots Q (F0 m pc ls (s1 w.1)))
    (k : J x (cc, own, nm, ret, F, L, nl) K pc2 lv (s2 (zx x)) h f) : J x (cc, own, nm, ret, F, L, nl) K pc lv (s1 (zx x)) h f := by
  obtain ⟨p, l, e, R, s, m, args, below, meth, c, w, h0, nL⟩ := x
  intro r h' ef
  obtain ⟨q1, q2⟩ := k r h' ef
  refine ⟨q1, fun C c1 c2 c3 c4 H locs ls hH hS hl => ?_⟩
  obtain ⟨hx, hb, hml, hown, hts, hlk, hr, -, -, rfl, hsz, hnm, hK, -⟩ := id C
  obtain ⟨n0, n1⟩ := hH.pos (a := a) (by omega)
  obtain ⟨k0, -, hk⟩ := pw_get (z := w.1) (cy := w.2.2.1) n1 g
  exact hW p l e R s m args below meth c w H locs _ _ _ ls k0 hx hb hown hts hK hH.2.2.2.2 hk (rv_pos n0) (q2 C c1 c2 c3 c4 H locs ls hH hS hl)
/-- a write into one cell -/
theorem J.writes {pc2 : Nat} {s1 s2 : Nat → List Value} {a : Nat} {h2 : AH} {E : Nat → (Nat → ClassId) → va_E} (g : xc h a < 23) (hn : xn h2 = xn h) (hs : xs h2 = xs h) (hcc : ∀ b, xc h2 b = xc h b) (he : ∀ z cy, ce z cy h2 a = E z cy) (ho : ∀ z cy b, b ≠ a → ce z cy h2 b = ce z cy h b)
    (hW : ∀ (p : Program) (l : Launch) (e : Env) (R : Room) (s : State) (m : MethodId) (args : Array Value) (below : List Frame) (meth : Method) (c : Code) (w : WT) (H : Heap) (locs : List Loc) (cells slots : Nat) (Q : State → Prop) (ls : Array Slot) (q0 : Nat), p.tables.exec = Jvm.exec → c.code = cc → s.vm.findClass own = some m.cls → (∀ q ∈ WG, q.before args s = true) → Kx w s → meth.name = nm → HR w h H →
      va_D (fz w) (pw w.1 w.2.2.1 h) → va_S (fz w) H H locs → (pw w.1 w.2.2.1 h)[q0]? = some (w.1 + a, ce w.1 w.2.2.1 h a) → rv w.1 a = .ref (w.1 + a) →
      (∀ (H1 : Heap) (locs1 : List Loc), va_P w.2.1 vwCl ((pw w.1 w.2.2.1 h).set q0 (w.1 + a, E w.1 w.2.2.1)) H1 → va_D (fz w) ((pw w.1 w.2.2.1 h).set q0 (w.1 + a, E w.1 w.2.2.1)) → va_S (fz w) H H1 locs1 → W p l e R s m args below meth c H1 locs1 cells slots Q (F0 m pc2 ls (s2 w.1))) → W p l e R s m args below meth c H locs cells slots Q (F0 m pc ls (s1 w.1)))
    (k : J x (cc, own, nm, ret, F, L, nl) K pc2 lv (s2 (zx x)) h2 f) : J x (cc, own, nm, ret, F, L, nl) K pc lv (s1 (zx x)) h f := by
  obtain ⟨p, l, e, R, s, m, args, below, meth, c, w, h0, nL⟩ := x
  intro r h' ef
  obtain ⟨q1, q2⟩ := k r h' ef
  rw [hn, hs] at q1
  refine ⟨q1, fun C c1 c2 c3 c4 H locs ls hH hS hl => ?_⟩
  obtain ⟨hx, hb, hml, hown, hts, hlk, hr, -, -, rfl, hsz, hnm, hK, -⟩ := id C
  obtain ⟨n0, n1⟩ := hH.pos (a := a) (by omega)
  obtain ⟨k0, hd, hk⟩ := pw_get (z := w.1) (cy := w.2.2.1) n1 g
  refine hW p l e R s m args below meth c w H locs _ _ _ ls k0 hx hb hown hts hK hnm hH (pw_D hH.2.2.1) ⟨Nat.le_refl _, fun _ _ _ => rfl, hS.2.2⟩ hk (rv_pos n0) (fun H1 locs1 hP1 hD1 hS1 => ?_)
  have hH1 : HR w h2 H1 := by
    refine ⟨by rw [hn]; exact Nat.le_trans hH.1 hS1.1, by rw [hn]; exact hH.2.1, by rw [hcc]; exact hH.2.2.1, fun b hb => by rw [hcc]; rw [hn] at hb; exact hH.2.2.2.1 b hb, ?_⟩
    rw [← pw_set hd hn hcc (he w.1 w.2.2.1) (ho w.1 w.2.2.1)]
    exact hP1
  have q3 := q2 C c1 c2 (by rw [hn]; exact c3) (by rw [hs]; exact c4) H1 locs1 ls hH1 (hS.trans2 hS1) hl
  rw [hn, hs] at q3
  exact q3
theorem J_getv {ci N index a : Nat} {Cn : String} {T : u_T} {ty : Nat → FieldType} (kc : KC ci Cn T N ty) (k : Nat) (hk : k < N) (hsm : (T k).1 = Cn) (hw : Cond.fieldLink own index Cn (T k).2.1 (T k).2.2.1 ∈ WG) (hd : decode cc pc = .ok (.getfield index, 3)) (g : xc h a = ci)
    (kk : J x (cc, own, nm, ret, F, L, nl) K (pc + 3) lv (fv (zx x) h a (ft ci k) k :: st) h f) : J x (cc, own, nm, ret, F, L, nl) K pc lv (rv (zx x) a :: st) h f := by
  obtain ⟨k1, k2, k3, k4, k5, k6, -⟩ := kc
  refine J.reads (s1 := fun z => rv z a :: st) (s2 := fun z => fv z h a (ft ci k) k :: st) (a := a) (by omega) (fun p l e R s m args below meth c w H locs cells slots Q ls q0 hx hb hown hts hK hP hq hr kk => ?_) kk
  rw [ce_obj g k1] at hq
  show W p l e R s m args below meth c H locs cells slots Q (F0 m pc ls (rv w.1 a :: st))
  rw [hr]
  exact va_get (D := w.2.1) (ci := ci) (C := Cn) (T := T) (N := N) hx hb hts k4 hown hK.1 hP q0 hq k2 k hk (hts _ hw) (fun y hy => by rw [hsm] at hy; exact hy) (fl_get g (by rw [k3]; exact hk)) hd kk
theorem J_getvN {ci N index a : Nat} {Cn host : String} {T : u_T} {ty : Nat → FieldType} (kc : KC ci Cn T N ty) (k : Nat) (hk : k < N) (hsm : (T k).1 = Cn) (hw : Cond.fieldLinkNest own index Cn (T k).2.1 (T k).2.2.1 host ∈ nestW) (hd : decode cc pc = .ok (.getfield index, 3)) (g : xc h a = ci)
    (kk : J x (cc, own, nm, ret, F, L, nl) K (pc + 3) lv (fv (zx x) h a (ft ci k) k :: st) h f) : J x (cc, own, nm, ret, F, L, nl) K pc lv (rv (zx x) a :: st) h f := by
  obtain ⟨k1, k2, k3, k4, k5, k6, -⟩ := kc
  refine J.reads (s1 := fun z => rv z a :: st) (s2 := fun z => fv z h a (ft ci k) k :: st) (a := a) (by omega) (fun p l e R s m args below meth c w H locs cells slots Q ls q0 hx hb hown hts hK hP hq hr kk => ?_) kk
  rw [ce_obj g k1] at hq
  show W p l e R s m args below meth c H locs cells slots Q (F0 m pc ls (rv w.1 a :: st))
  rw [hr]
  exact va_getN (D := w.2.1) (ci := ci) (C := Cn) (T := T) (N := N) hx hb hts k4 hown hK.1 hP q0 hq k2 k hk (va_Nw.use rfl (hK.2.1 _ hw)) (fun y hy => by rw [hsm] at hy; exact hy) (fl_get g (by rw [k3]; exact hk)) hd kk
theorem fv_I {z : Nat} {h : AH} {a t k : Nat} (ht : (t == 1 || t == 2) = false) : fv z h a t k = .int (xI h a k) := by
  simp at ht
  unfold fv
  rw [if_neg ht.1, if_neg ht.2]
theorem fv_L {z : Nat} {h : AH} {a t k : Nat} (ht : t = 1) : fv z h a t k = .long (xL h a k) := by subst ht; rfl
theorem fv_R {z : Nat} {h : AH} {a t k : Nat} (ht : t = 2) : fv z h a t k = rv z (xR h a k) := by subst ht; rfl
theorem J_getI {ci N index a : Nat} {Cn : String} {T : u_T} {ty : Nat → FieldType} (kc : KC ci Cn T N ty) (k : Nat) (hk : k < N) (hsm : (T k).1 = Cn) (ht : (ft ci k == 1 || ft ci k == 2) = false) (hw : Cond.fieldLink own index Cn (T k).2.1 (T k).2.2.1 ∈ WG) (hd : decode cc pc = .ok (.getfield index, 3)) (g : xc h a = ci) (kk : J x (cc, own, nm, ret, F, L, nl) K (pc + 3) lv (.int (xI h a k) :: st) h f) : J x (cc, own, nm, ret, F, L, nl) K pc lv (rv (zx x) a :: st) h f :=
  J_getv kc k hk hsm hw hd g (by rw [fv_I ht]; exact kk)
theorem J_getL {ci N index a : Nat} {Cn : String} {T : u_T} {ty : Nat → FieldType} (kc : KC ci Cn T N ty) (k : Nat) (hk : k < N) (hsm : (T k).1 = Cn) (ht : ft ci k = 1) (hw : Cond.fieldLink own index Cn (T k).2.1 (T k).2.2.1 ∈ WG) (hd : decode cc pc = .ok (.getfield index, 3)) (g : xc h a = ci) (kk : J x (cc, own, nm, ret, F, L, nl) K (pc + 3) lv (.long (xL h a k) :: st) h f) : J x (cc, own, nm, ret, F, L, nl) K pc lv (rv (zx x) a :: st) h f :=
  J_getv kc k hk hsm hw hd g (by rw [fv_L ht]; exact kk)
theorem J_getR {ci N index a : Nat} {Cn : String} {T : u_T} {ty : Nat → FieldType} (kc : KC ci Cn T N ty) (k : Nat) (hk : k < N) (hsm : (T k).1 = Cn) (ht : ft ci k = 2) (hw : Cond.fieldLink own index Cn (T k).2.1 (T k).2.2.1 ∈ WG) (hd : decode cc pc = .ok (.getfield index, 3)) (g : xc h a = ci) (kk : J x (cc, own, nm, ret, F, L, nl) K (pc + 3) lv (rv (zx x) (xR h a k) :: st) h f) : J x (cc, own, nm, ret, F, L, nl) K pc lv (rv (zx x) a :: st) h f :=
  J_getv kc k hk hsm hw hd g (by rw [fv_R ht]; exact kk)
theorem J_getIN {ci N index a : Nat} {Cn host : String} {T : u_T} {ty : Nat → FieldType} (kc : KC ci Cn T N ty) (k : Nat) (hk : k < N) (hsm : (T k).1 = Cn) (ht : (ft ci k == 1 || ft ci k == 2) = false) (hw : Cond.fieldLinkNest own index Cn (T k).2.1 (T k).2.2.1 host ∈ nestW) (hd : decode cc pc = .ok (.getfield index, 3)) (g : xc h a = ci) (kk : J x (cc, own, nm, ret, F, L, nl) K (pc + 3) lv (.int (xI h a k) :: st) h f) : J x (cc, own, nm, ret, F, L, nl) K pc lv (rv (zx x) a :: st) h f :=
  J_getvN kc k hk hsm hw hd g (by rw [fv_I ht]; exact kk)
theorem J_getLN {ci N index a : Nat} {Cn host : String} {T : u_T} {ty : Nat → FieldType} (kc : KC ci Cn T N ty) (k : Nat) (hk : k < N) (hsm : (T k).1 = Cn) (ht : ft ci k = 1) (hw : Cond.fieldLinkNest own index Cn (T k).2.1 (T k).2.2.1 host ∈ nestW) (hd : decode cc pc = .ok (.getfield index, 3)) (g : xc h a = ci) (kk : J x (cc, own, nm, ret, F, L, nl) K (pc + 3) lv (.long (xL h a k) :: st) h f) : J x (cc, own, nm, ret, F, L, nl) K pc lv (rv (zx x) a :: st) h f :=
  J_getvN kc k hk hsm hw hd g (by rw [fv_L ht]; exact kk)
theorem J_getRN {ci N index a : Nat} {Cn host : String} {T : u_T} {ty : Nat → FieldType} (kc : KC ci Cn T N ty) (k : Nat) (hk : k < N) (hsm : (T k).1 = Cn) (ht : ft ci k = 2) (hw : Cond.fieldLinkNest own index Cn (T k).2.1 (T k).2.2.1 host ∈ nestW) (hd : decode cc pc = .ok (.getfield index, 3)) (g : xc h a = ci) (kk : J x (cc, own, nm, ret, F, L, nl) K (pc + 3) lv (rv (zx x) (xR h a k) :: st) h f) : J x (cc, own, nm, ret, F, L, nl) K pc lv (rv (zx x) a :: st) h f :=
  J_getvN kc k hk hsm hw hd g (by rw [fv_R ht]; exact kk)
theorem fl_pI {z ci : Nat} {h : AH} {a k : Nat} {v : Int32} (g : xc h a = ci) (hk : k < nf ci) (ht : (ft ci k == 1 || ft ci k == 2) = false) : fl z (pI h a k v) a = (fl z h a).set k (.int v) := by
  refine fl_set (ci := ci) g (by show xc h a = ci; exact g) hk ?_ (fun j hj => ?_)
  · rw [fv_I ht, xI_pI, if_pos ⟨rfl, rfl⟩]
  · unfold fv
    by_cases h1 : ft ci j = 1
    · rw [if_pos h1, if_pos h1]
      first | rfl | (rw [xL_pL, if_neg (fun q => hj q.2)])
    · rw [if_neg h1, if_neg h1]
      by_cases h2 : ft ci j = 2
      · rw [if_pos h2, if_pos h2]
        first | rfl | (rw [xR_pR, if_neg (fun q => hj q.2)])
      · rw [if_neg h2, if_neg h2]
        first | rfl | (rw [xI_pI, if_neg (fun q => hj q.2)])
theorem ce_pI {z : Nat} {cy : Nat → ClassId} {h : AH} {a b k : Nat} {v : Int32} (hb : b ≠ a) : ce z cy (pI h a k v) b = ce z cy h b := by
  have e : xI (pI h a k v) b = xI h b := by
    funext j
    rw [xI_pI, if_neg (fun q => hb q.1)]
  unfold ce fl fv
  rw [e]
  rfl
theorem J_putI {ci N index a : Nat} {Cn : String} {T : u_T} {ty : Nat → FieldType} (kc : KC ci Cn T N ty) (k : Nat) (hk : k < N) (hsm : (T k).1 = Cn) {v : Int32} (ht : (ft ci k == 1 || ft ci k == 2) = false) (hv : narrow (ty k) (.int v) = .int v) (hf : fits (ty k) (.int v) = true) (hfin : (T k).2.2.2 = false ∨ ((T k).2.2.2 = true ∧ nm = "<init>" ∧ (T k).1 = own)) (hw : Cond.fieldLink own index Cn (T k).2.1 (T k).2.2.1 ∈ WG) (hd : decode cc pc = .ok (.putfield index, 3)) (g : xc h a = ci) (kk : J x (cc, own, nm, ret, F, L, nl) K (pc + 3) lv st (pI h a k v) f) : J x (cc, own, nm, ret, F, L, nl) K pc lv (.int v :: rv (zx x) a :: st) h f := by
  obtain ⟨k1, k2, k3, k4, k5, k6, -⟩ := kc
  refine J.writes (s1 := fun z => .int v :: rv z a :: st) (s2 := fun _ => st) (h2 := pI h a k v) (E := fun z cy => .inr (ci, (fl z h a).set k (.int v))) (a := a) (by omega) rfl rfl (fun _ => rfl) (fun z cy => by rw [ce_obj (ci := ci) (by exact g) k1, fl_pI g (by rw [k3]; exact hk) ht]) (fun z cy b hb => ce_pI hb) (fun p l e R s m args below meth c w H locs cells slots Q ls q0 hx hb hown hts hK hnm hH hD hS hq hr kk => ?_) kk
  rw [ce_obj g k1] at hq
  show W p l e R s m args below meth c H locs cells slots Q (F0 m pc ls (.int v :: rv w.1 a :: st))
  rw [hr]
  have hlen : k < (fl w.1 h a).length := by rw [fl_len g, k3]; exact hk
  rcases hfin with hfin | ⟨hfin, hi, hdecl⟩
  · exact va_put (D := w.2.1) (ci := ci) (C := Cn) (T := T) (N := N) hx hb hts k4 ty k5 k6 hown hK.1 hH.2.2.2.2 hD hS q0 hq k2 k hk (hts _ hw) (fun y hy => by rw [hsm] at hy; exact hy) hfin (k5 k hk) hv hf hlen hd (fun H1 locs1 a b c => kk H1 locs1 a b c)
  · exact va_putF (D := w.2.1) (ci := ci) (C := Cn) (T := T) (N := N) hx hb hts k4 ty k5 k6 hown hK.1 hH.2.2.2.2 hD hS q0 hq k2 k hk (hts _ hw) (fun y hy => by rw [hsm] at hy; exact hy) hfin (hnm.trans hi) hdecl (k5 k hk) hv hf hlen hd (fun H1 locs1 a b c => kk H1 locs1 a b c)
theorem J_putIN {ci N index a : Nat} {Cn host : String} {T : u_T} {ty : Nat → FieldType} (kc : KC ci Cn T N ty) (k : Nat) (hk : k < N) (hsm : (T k).1 = Cn) {v : Int32} (ht : (ft ci k == 1 || ft ci k == 2) = false) (hv : narrow (ty k) (.int v) = .int v) (hf : fits (ty k) (.int v) = true) (hfin : (T k).2.2.2 = false) (hw : Cond.fieldLinkNest own index Cn (T k).2.1 (T k).2.2.1 host ∈ nestW) (hd : decode cc pc = .ok (.putfield index, 3)) (g : xc h a = ci) (kk : J x (cc, own, nm, ret, F, L, nl) K (pc + 3) lv st (pI h a k v) f) : J x (cc, own, nm, ret, F, L, nl) K pc lv (.int v :: rv (zx x) a :: st) h f := by
  obtain ⟨k1, k2, k3, k4, k5, k6, -⟩ := kc
  refine J.writes (s1 := fun z => .int v :: rv z a :: st) (s2 := fun _ => st) (h2 := pI h a k v) (E := fun z cy => .inr (ci, (fl z h a).set k (.int v))) (a := a) (by omega) rfl rfl (fun _ => rfl) (fun z cy => by rw [ce_obj (ci := ci) (by exact g) k1, fl_pI g (by rw [k3]; exact hk) ht]) (fun z cy b hb => ce_pI hb) (fun p l e R s m args below meth c w H locs cells slots Q ls q0 hx hb hown hts hK hnm hH hD hS hq hr kk => ?_) kk
  rw [ce_obj g k1] at hq
  show W p l e R s m args below meth c H locs cells slots Q (F0 m pc ls (.int v :: rv w.1 a :: st))
  rw [hr]
  have hlen : k < (fl w.1 h a).length := by rw [fl_len g, k3]; exact hk
  exact va_putN (D := w.2.1) (ci := ci) (C := Cn) (T := T) (N := N) hx hb hts k4 ty k5 k6 hown hK.1 hH.2.2.2.2 hD hS q0 hq k2 k hk (va_Nw.use rfl (hK.2.1 _ hw)) (fun y hy => by rw [hsm] at hy; exact hy) hfin (k5 k hk) hv hf hlen hd (fun H1 locs1 a b c => kk H1 locs1 a b c)
theorem fl_pL {z ci : Nat} {h : AH} {a k : Nat} {v : Int64} (g : xc h a = ci) (hk : k < nf ci) (ht : ft ci k = 1) : fl z (pL h a k v) a = (fl z h a).set k (.long v) := by
  refine fl_set (ci := ci) g (by show xc h a = ci; exact g) hk ?_ (fun j hj => ?_)
  · rw [fv_L ht, xL_pL, if_pos ⟨rfl, rfl⟩]
  · unfold fv
    by_cases h1 : ft ci j = 1
    · rw [if_pos h1, if_pos h1]
      first | rfl | (rw [xL_pL, if_neg (fun q => hj q.2)])
    · rw [if_neg h1, if_neg h1]
      by_cases h2 : ft ci j = 2
      · rw [if_pos h2, if_pos h2]
        first | rfl | (rw [xR_pR, if_neg (fun q => hj q.2)])
      · rw [if_neg h2, if_neg h2]
        first | rfl | (rw [xI_pI, if_neg (fun q => hj q.2)])
theorem ce_pL {z : Nat} {cy : Nat → ClassId} {h : AH} {a b k : Nat} {v : Int64} (hb : b ≠ a) : ce z cy (pL h a k v) b = ce z cy h b := by
  have e : xL (pL h a k v) b = xL h b := by
    funext j
    rw [xL_pL, if_neg (fun q => hb q.1)]
  unfold ce fl fv
  rw [e]
  rfl
theorem J_putL {ci N index a : Nat} {Cn : String} {T : u_T} {ty : Nat → FieldType} (kc : KC ci Cn T N ty) (k : Nat) (hk : k < N) (hsm : (T k).1 = Cn) {v : Int64} (ht : ft ci k = 1) (hy : ty k = .long) (hfin : (T k).2.2.2 = false ∨ ((T k).2.2.2 = true ∧ nm = "<init>" ∧ (T k).1 = own)) (hw : Cond.fieldLink own index Cn (T k).2.1 (T k).2.2.1 ∈ WG) (hd : decode cc pc = .ok (.putfield index, 3)) (g : xc h a = ci) (kk : J x (cc, own, nm, ret, F, L, nl) K (pc + 3) lv st (pL h a k v) f) : J x (cc, own, nm, ret, F, L, nl) K pc lv (.long v :: rv (zx x) a :: st) h f := by
  obtain ⟨k1, k2, k3, k4, k5, k6, -⟩ := kc
  refine J.writes (s1 := fun z => .long v :: rv z a :: st) (s2 := fun _ => st) (h2 := pL h a k v) (E := fun z cy => .inr (ci, (fl z h a).set k (.long v))) (a := a) (by omega) rfl rfl (fun _ => rfl) (fun z cy => by rw [ce_obj (ci := ci) (by exact g) k1, fl_pL g (by rw [k3]; exact hk) ht]) (fun z cy b hb => ce_pL hb) (fun p l e R s m args below meth c w H locs cells slots Q ls q0 hx hb hown hts hK hnm hH hD hS hq hr kk => ?_) kk
  rw [ce_obj g k1] at hq
  show W p l e R s m args below meth c H locs cells slots Q (F0 m pc ls (.long v :: rv w.1 a :: st))
  rw [hr]
  have hlen : k < (fl w.1 h a).length := by rw [fl_len g, k3]; exact hk
  rcases hfin with hfin | ⟨hfin, hi, hdecl⟩
  · exact va_put (D := w.2.1) (ci := ci) (C := Cn) (T := T) (N := N) hx hb hts k4 ty k5 k6 hown hK.1 hH.2.2.2.2 hD hS q0 hq k2 k hk (hts _ hw) (fun y hy => by rw [hsm] at hy; exact hy) hfin (k5 k hk) (by rw [hy]; rfl) (by rw [hy]; rfl) hlen hd (fun H1 locs1 a b c => kk H1 locs1 a b c)
  · exact va_putF (D := w.2.1) (ci := ci) (C := Cn) (T := T) (N := N) hx hb hts k4 ty k5 k6 hown hK.1 hH.2.2.2.2 hD hS q0 hq k2 k hk (hts _ hw) (fun y hy => by rw [hsm] at hy; exact hy) hfin (hnm.trans hi) hdecl (k5 k hk) (by rw [hy]; rfl) (by rw [hy]; rfl) hlen hd (fun H1 locs1 a b c => kk H1 locs1 a b c)
theorem J_putLN {ci N index a : Nat} {Cn host : String} {T : u_T} {ty : Nat → FieldType} (kc : KC ci Cn T N ty) (k : Nat) (hk : k < N) (hsm : (T k).1 = Cn) {v : Int64} (ht : ft ci k = 1) (hy : ty k = .long) (hfin : (T k).2.2.2 = false) (hw : Cond.fieldLinkNest own index Cn (T k).2.1 (T k).2.2.1 host ∈ nestW) (hd : decode cc pc = .ok (.putfield index, 3)) (g : xc h a = ci) (kk : J x (cc, own, nm, ret, F, L, nl) K (pc + 3) lv st (pL h a k v) f) : J x (cc, own, nm, ret, F, L, nl) K pc lv (.long v :: rv (zx x) a :: st) h f := by
  obtain ⟨k1, k2, k3, k4, k5, k6, -⟩ := kc
  refine J.writes (s1 := fun z => .long v :: rv z a :: st) (s2 := fun _ => st) (h2 := pL h a k v) (E := fun z cy => .inr (ci, (fl z h a).set k (.long v))) (a := a) (by omega) rfl rfl (fun _ => rfl) (fun z cy => by rw [ce_obj (ci := ci) (by exact g) k1, fl_pL g (by rw [k3]; exact hk) ht]) (fun z cy b hb => ce_pL hb) (fun p l e R s m args below meth c w H locs cells slots Q ls q0 hx hb hown hts hK hnm hH hD hS hq hr kk => ?_) kk
  rw [ce_obj g k1] at hq
  show W p l e R s m args below meth c H locs cells slots Q (F0 m pc ls (.long v :: rv w.1 a :: st))
  rw [hr]
  have hlen : k < (fl w.1 h a).length := by rw [fl_len g, k3]; exact hk
  exact va_putN (D := w.2.1) (ci := ci) (C := Cn) (T := T) (N := N) hx hb hts k4 ty k5 k6 hown hK.1 hH.2.2.2.2 hD hS q0 hq k2 k hk (va_Nw.use rfl (hK.2.1 _ hw)) (fun y hy => by rw [hsm] at hy; exact hy) hfin (k5 k hk) (by rw [hy]; rfl) (by rw [hy]; rfl) hlen hd (fun H1 locs1 a b c => kk H1 locs1 a b c)
theorem fl_pR {z ci : Nat} {h : AH} {a k : Nat} {v : Nat} (g : xc h a = ci) (hk : k < nf ci) (ht : ft ci k = 2) : fl z (pR h a k v) a = (fl z h a).set k (rv (z) v) := by
  refine fl_set (ci := ci) g (by show xc h a = ci; exact g) hk ?_ (fun j hj => ?_)
  · rw [fv_R ht, xR_pR, if_pos ⟨rfl, rfl⟩]
  · unfold fv
    by_cases h1 : ft ci j = 1
    · rw [if_pos h1, if_pos h1]
      first | rfl | (rw [xL_pL, if_neg (fun q => hj q.2)])
    · rw [if_neg h1, if_neg h1]
      by_cases h2 : ft ci j = 2
      · rw [if_pos h2, if_pos h2]
        first | rfl | (rw [xR_pR, if_neg (fun q => hj q.2)])
      · rw [if_neg h2, if_neg h2]
        first | rfl | (rw [xI_pI, if_neg (fun q => hj q.2)])
theorem ce_pR {z : Nat} {cy : Nat → ClassId} {h : AH} {a b k : Nat} {v : Nat} (hb : b ≠ a) : ce z cy (pR h a k v) b = ce z cy h b := by
  have e : xR (pR h a k v) b = xR h b := by
    funext j
    rw [xR_pR, if_neg (fun q => hb q.1)]
  unfold ce fl fv
  rw [e]
  rfl
theorem J_putR {ci N index a : Nat} {Cn : String} {T : u_T} {ty : Nat → FieldType} (kc : KC ci Cn T N ty) (k : Nat) (hk : k < N) (hsm : (T k).1 = Cn) {v : Nat} (ht : ft ci k = 2) (hy : (∃ n, ty k = .object n) ∨ ∃ t, ty k = .array t) (hfin : (T k).2.2.2 = false ∨ ((T k).2.2.2 = true ∧ nm = "<init>" ∧ (T k).1 = own)) (hw : Cond.fieldLink own index Cn (T k).2.1 (T k).2.2.1 ∈ WG) (hd : decode cc pc = .ok (.putfield index, 3)) (g : xc h a = ci) (kk : J x (cc, own, nm, ret, F, L, nl) K (pc + 3) lv st (pR h a k v) f) : J x (cc, own, nm, ret, F, L, nl) K pc lv (rv (zx x) v :: rv (zx x) a :: st) h f := by
  obtain ⟨k1, k2, k3, k4, k5, k6, -⟩ := kc
  refine J.writes (s1 := fun z => rv (z) v :: rv z a :: st) (s2 := fun _ => st) (h2 := pR h a k v) (E := fun z cy => .inr (ci, (fl z h a).set k (rv (z) v))) (a := a) (by omega) rfl rfl (fun _ => rfl) (fun z cy => by rw [ce_obj (ci := ci) (by exact g) k1, fl_pR g (by rw [k3]; exact hk) ht]) (fun z cy b hb => ce_pR hb) (fun p l e R s m args below meth c w H locs cells slots Q ls q0 hx hb hown hts hK hnm hH hD hS hq hr kk => ?_) kk
  rw [ce_obj g k1] at hq
  show W p l e R s m args below meth c H locs cells slots Q (F0 m pc ls (rv (w.1) v :: rv w.1 a :: st))
  rw [hr]
  have hlen : k < (fl w.1 h a).length := by rw [fl_len g, k3]; exact hk
  rcases hfin with hfin | ⟨hfin, hi, hdecl⟩
  · exact va_put (D := w.2.1) (ci := ci) (C := Cn) (T := T) (N := N) hx hb hts k4 ty k5 k6 hown hK.1 hH.2.2.2.2 hD hS q0 hq k2 k hk (hts _ hw) (fun y hy => by rw [hsm] at hy; exact hy) hfin (k5 k hk) (by rcases hy with ⟨n, hy⟩ | ⟨n, hy⟩ <;> rw [hy] <;> rcases rv_is (z := w.1) (a := v) with e | ⟨q, e⟩ <;> rw [e] <;> rfl) (by rcases hy with ⟨n, hy⟩ | ⟨n, hy⟩ <;> rw [hy] <;> rcases rv_is (z := w.1) (a := v) with e | ⟨q, e⟩ <;> rw [e] <;> rfl) hlen hd (fun H1 locs1 a b c => kk H1 locs1 a b c)
  · exact va_putF (D := w.2.1) (ci := ci) (C := Cn) (T := T) (N := N) hx hb hts k4 ty k5 k6 hown hK.1 hH.2.2.2.2 hD hS q0 hq k2 k hk (hts _ hw) (fun y hy => by rw [hsm] at hy; exact hy) hfin (hnm.trans hi) hdecl (k5 k hk) (by rcases hy with ⟨n, hy⟩ | ⟨n, hy⟩ <;> rw [hy] <;> rcases rv_is (z := w.1) (a := v) with e | ⟨q, e⟩ <;> rw [e] <;> rfl) (by rcases hy with ⟨n, hy⟩ | ⟨n, hy⟩ <;> rw [hy] <;> rcases rv_is (z := w.1) (a := v) with e | ⟨q, e⟩ <;> rw [e] <;> rfl) hlen hd (fun H1 locs1 a b c => kk H1 locs1 a b c)
theorem J_putRN {ci N index a : Nat} {Cn host : String} {T : u_T} {ty : Nat → FieldType} (kc : KC ci Cn T N ty) (k : Nat) (hk : k < N) (hsm : (T k).1 = Cn) {v : Nat} (ht : ft ci k = 2) (hy : (∃ n, ty k = .object n) ∨ ∃ t, ty k = .array t) (hfin : (T k).2.2.2 = false) (hw : Cond.fieldLinkNest own index Cn (T k).2.1 (T k).2.2.1 host ∈ nestW) (hd : decode cc pc = .ok (.putfield index, 3)) (g : xc h a = ci) (kk : J x (cc, own, nm, ret, F, L, nl) K (pc + 3) lv st (pR h a k v) f) : J x (cc, own, nm, ret, F, L, nl) K pc lv (rv (zx x) v :: rv (zx x) a :: st) h f := by
  obtain ⟨k1, k2, k3, k4, k5, k6, -⟩ := kc
  refine J.writes (s1 := fun z => rv (z) v :: rv z a :: st) (s2 := fun _ => st) (h2 := pR h a k v) (E := fun z cy => .inr (ci, (fl z h a).set k (rv (z) v))) (a := a) (by omega) rfl rfl (fun _ => rfl) (fun z cy => by rw [ce_obj (ci := ci) (by exact g) k1, fl_pR g (by rw [k3]; exact hk) ht]) (fun z cy b hb => ce_pR hb) (fun p l e R s m args below meth c w H locs cells slots Q ls q0 hx hb hown hts hK hnm hH hD hS hq hr kk => ?_) kk
  rw [ce_obj g k1] at hq
  show W p l e R s m args below meth c H locs cells slots Q (F0 m pc ls (rv (w.1) v :: rv w.1 a :: st))
  rw [hr]
  have hlen : k < (fl w.1 h a).length := by rw [fl_len g, k3]; exact hk
  exact va_putN (D := w.2.1) (ci := ci) (C := Cn) (T := T) (N := N) hx hb hts k4 ty k5 k6 hown hK.1 hH.2.2.2.2 hD hS q0 hq k2 k hk (va_Nw.use rfl (hK.2.1 _ hw)) (fun y hy => by rw [hsm] at hy; exact hy) hfin (k5 k hk) (by rcases hy with ⟨n, hy⟩ | ⟨n, hy⟩ <;> rw [hy] <;> rcases rv_is (z := w.1) (a := v) with e | ⟨q, e⟩ <;> rw [e] <;> rfl) (by rcases hy with ⟨n, hy⟩ | ⟨n, hy⟩ <;> rw [hy] <;> rcases rv_is (z := w.1) (a := v) with e | ⟨q, e⟩ <;> rw [e] <;> rfl) hlen hd (fun H1 locs1 a b c => kk H1 locs1 a b c)
abbrev gx (i : Int32) (n : Nat) : Prop := ¬ (i < 0 ∨ n ≤ i.toNatClampNeg)
theorem J_iald {a : Nat} {i : Int32} (hd : decode cc pc = .ok (.iaload, 1)) (g : xc h a = 16) (gi : gx i (xz h a)) (kk : J x (cc, own, nm, ret, F, L, nl) K (pc + 1) lv (.int (xI h a i.toNatClampNeg) :: st) h f) : J x (cc, own, nm, ret, F, L, nl) K pc lv (.int i :: rv (zx x) a :: st) h f := by
  refine J.reads (s1 := fun z => .int i :: rv z a :: st) (s2 := fun _ => .int (xI h a i.toNatClampNeg) :: st) (a := a) (by omega) (fun p l e R s m args below meth c w H locs cells slots Q ls q0 hx hb hown hts hK hP hq hr kk => ?_) kk
  rw [ce_I g (by decide) (by decide) (by decide)] at hq
  show W p l e R s m args below meth c H locs cells slots Q (F0 m pc ls (.int i :: rv w.1 a :: st))
  rw [hr]
  exact va_iald hx hb hK.1 hP q0 0 hq rfl gi hd kk
theorem J_lald {a : Nat} {i : Int32} (hd : decode cc pc = .ok (.laload, 1)) (g : xc h a = 17) (gi : gx i (xz h a)) (kk : J x (cc, own, nm, ret, F, L, nl) K (pc + 1) lv (.long (xL h a i.toNatClampNeg) :: st) h f) : J x (cc, own, nm, ret, F, L, nl) K pc lv (.int i :: rv (zx x) a :: st) h f := by
  refine J.reads (s1 := fun z => .int i :: rv z a :: st) (s2 := fun _ => .long (xL h a i.toNatClampNeg) :: st) (a := a) (by omega) (fun p l e R s m args below meth c w H locs cells slots Q ls q0 hx hb hown hts hK hP hq hr kk => ?_) kk
  rw [ce_J g] at hq
  show W p l e R s m args below meth c H locs cells slots Q (F0 m pc ls (.int i :: rv w.1 a :: st))
  rw [hr]
  exact va_lald hx hb hK.1 hP q0 1 hq rfl gi hd kk
theorem J_bald {a : Nat} {i : Int32} (hd : decode cc pc = .ok (.baload, 1)) (g : xc h a = 18) (gi : gx i (xz h a)) (kk : J x (cc, own, nm, ret, F, L, nl) K (pc + 1) lv (.int (xI h a i.toNatClampNeg) :: st) h f) : J x (cc, own, nm, ret, F, L, nl) K pc lv (.int i :: rv (zx x) a :: st) h f := by
  refine J.reads (s1 := fun z => .int i :: rv z a :: st) (s2 := fun _ => .int (xI h a i.toNatClampNeg) :: st) (a := a) (by omega) (fun p l e R s m args below meth c w H locs cells slots Q ls q0 hx hb hown hts hK hP hq hr kk => ?_) kk
  rw [ce_I g (by decide) (by decide) (by decide)] at hq
  show W p l e R s m args below meth c H locs cells slots Q (F0 m pc ls (.int i :: rv w.1 a :: st))
  rw [hr]
  exact va_bald hx hb hK.1 hP q0 2 hq rfl gi hd kk
theorem J_zald {a : Nat} {i : Int32} (hd : decode cc pc = .ok (.baload, 1)) (g : xc h a = 19) (gi : gx i (xz h a)) (kk : J x (cc, own, nm, ret, F, L, nl) K (pc + 1) lv (.int (xI h a i.toNatClampNeg) :: st) h f) : J x (cc, own, nm, ret, F, L, nl) K pc lv (.int i :: rv (zx x) a :: st) h f := by
  refine J.reads (s1 := fun z => .int i :: rv z a :: st) (s2 := fun _ => .int (xI h a i.toNatClampNeg) :: st) (a := a) (by omega) (fun p l e R s m args below meth c w H locs cells slots Q ls q0 hx hb hown hts hK hP hq hr kk => ?_) kk
  rw [ce_I g (by decide) (by decide) (by decide)] at hq
  show W p l e R s m args below meth c H locs cells slots Q (F0 m pc ls (.int i :: rv w.1 a :: st))
  rw [hr]
  exact va_zald hx hb hK.1 hP q0 3 hq rfl gi hd kk
theorem J_iast {a : Nat} {i : Int32} {v : Int32} (hd : decode cc pc = .ok (.iastore, 1)) (g : xc h a = 16) (gi : gx i (xz h a)) (kk : J x (cc, own, nm, ret, F, L, nl) K (pc + 1) lv st (pI h a i.toNatClampNeg v) f) : J x (cc, own, nm, ret, F, L, nl) K pc lv (.int v :: .int i :: rv (zx x) a :: st) h f := by
  have eu : xI (pI h a i.toNatClampNeg v) a = upd (xI h a) i.toNatClampNeg v := by
    funext j
    rw [xI_pI]
    unfold upd
    by_cases e : j = i.toNatClampNeg
    · rw [if_pos ⟨rfl, e⟩, if_pos e]
    · rw [if_neg (fun q => e q.2), if_neg e]
  refine J.writes (s1 := fun z => .int v :: .int i :: rv z a :: st) (s2 := fun _ => st) (h2 := pI h a i.toNatClampNeg v) (E := fun z cy => .inl (cy 16, xz h a, .inl (upd (xI h a) i.toNatClampNeg v))) (a := a) (by omega) rfl rfl (fun _ => rfl) (fun z cy => by rw [ce_I (t := 16) (by exact g) (by decide) (by decide) (by decide), eu]; rfl) (fun z cy b hb => ce_pI hb) (fun p l e R s m args below meth c w H locs cells slots Q ls q0 hx hb hown hts hK hnm hH hD hS hq hr kk => ?_) kk
  rw [ce_I (t := 16) (by exact g) (by decide) (by decide) (by decide)] at hq
  show W p l e R s m args below meth c H locs cells slots Q (F0 m pc ls (.int v :: .int i :: rv w.1 a :: st))
  rw [hr]
  exact va_iast hx hb hK.1 hH.2.2.2.2 hD hS q0 0 hq rfl gi hd (fun H1 locs1 a b c => kk H1 locs1 a b c)
theorem J_last {a : Nat} {i : Int32} {v : Int64} (hd : decode cc pc = .ok (.lastore, 1)) (g : xc h a = 17) (gi : gx i (xz h a)) (kk : J x (cc, own, nm, ret, F, L, nl) K (pc + 1) lv st (pL h a i.toNatClampNeg v) f) : J x (cc, own, nm, ret, F, L, nl) K pc lv (.long v :: .int i :: rv (zx x) a :: st) h f := by
  have eu : xL (pL h a i.toNatClampNeg v) a = vp_updL (xL h a) i.toNatClampNeg v := by
    funext j
    rw [xL_pL]
    unfold vp_updL
    by_cases e : j = i.toNatClampNeg
    · rw [if_pos ⟨rfl, e⟩, if_pos e]
    · rw [if_neg (fun q => e q.2), if_neg e]
  refine J.writes (s1 := fun z => .long v :: .int i :: rv z a :: st) (s2 := fun _ => st) (h2 := pL h a i.toNatClampNeg v) (E := fun z cy => .inl (cy 17, xz h a, .inr (.inl (vp_updL (xL h a) i.toNatClampNeg v)))) (a := a) (by omega) rfl rfl (fun _ => rfl) (fun z cy => by rw [ce_J (by exact g), eu]; rfl) (fun z cy b hb => ce_pL hb) (fun p l e R s m args below meth c w H locs cells slots Q ls q0 hx hb hown hts hK hnm hH hD hS hq hr kk => ?_) kk
  rw [ce_J (by exact g)] at hq
  show W p l e R s m args below meth c H locs cells slots Q (F0 m pc ls (.long v :: .int i :: rv w.1 a :: st))
  rw [hr]
  exact va_last hx hb hK.1 hH.2.2.2.2 hD hS q0 1 hq rfl gi hd (fun H1 locs1 a b c => kk H1 locs1 a b c)
theorem J_bast {a : Nat} {i : Int32} {v : Int32} (hd : decode cc pc = .ok (.bastore, 1)) (g : xc h a = 18) (gi : gx i (xz h a)) (kk : J x (cc, own, nm, ret, F, L, nl) K (pc + 1) lv st (pI h a i.toNatClampNeg (vp_nar .byte v)) f) : J x (cc, own, nm, ret, F, L, nl) K pc lv (.int v :: .int i :: rv (zx x) a :: st) h f := by
  have eu : xI (pI h a i.toNatClampNeg (vp_nar .byte v)) a = upd (xI h a) i.toNatClampNeg (vp_nar .byte v) := by
    funext j
    rw [xI_pI]
    unfold upd
    by_cases e : j = i.toNatClampNeg
    · rw [if_pos ⟨rfl, e⟩, if_pos e]
    · rw [if_neg (fun q => e q.2), if_neg e]
  refine J.writes (s1 := fun z => .int v :: .int i :: rv z a :: st) (s2 := fun _ => st) (h2 := pI h a i.toNatClampNeg (vp_nar .byte v)) (E := fun z cy => .inl (cy 18, xz h a, .inl (upd (xI h a) i.toNatClampNeg (vp_nar .byte v)))) (a := a) (by omega) rfl rfl (fun _ => rfl) (fun z cy => by rw [ce_I (t := 18) (by exact g) (by decide) (by decide) (by decide), eu]; rfl) (fun z cy b hb => ce_pI hb) (fun p l e R s m args below meth c w H locs cells slots Q ls q0 hx hb hown hts hK hnm hH hD hS hq hr kk => ?_) kk
  rw [ce_I (t := 18) (by exact g) (by decide) (by decide) (by decide)] at hq
  show W p l e R s m args below meth c H locs cells slots Q (F0 m pc ls (.int v :: .int i :: rv w.1 a :: st))
  rw [hr]
  exact va_bast hx hb hK.1 hH.2.2.2.2 hD hS q0 2 hq rfl gi hd (fun H1 locs1 a b c => kk H1 locs1 a b c)
theorem J_zast {a : Nat} {i : Int32} {v : Int32} (hd : decode cc pc = .ok (.bastore, 1)) (g : xc h a = 19) (gi : gx i (xz h a)) (kk : J x (cc, own, nm, ret, F, L, nl) K (pc + 1) lv st (pI h a i.toNatClampNeg (vp_nar .boolean v)) f) : J x (cc, own, nm, ret, F, L, nl) K pc lv (.int v :: .int i :: rv (zx x) a :: st) h f := by
  have eu : xI (pI h a i.toNatClampNeg (vp_nar .boolean v)) a = upd (xI h a) i.toNatClampNeg (vp_nar .boolean v) := by
    funext j
    rw [xI_pI]
    unfold upd
    by_cases e : j = i.toNatClampNeg
    · rw [if_pos ⟨rfl, e⟩, if_pos e]
    · rw [if_neg (fun q => e q.2), if_neg e]
  refine J.writes (s1 := fun z => .int v :: .int i :: rv z a :: st) (s2 := fun _ => st) (h2 := pI h a i.toNatClampNeg (vp_nar .boolean v)) (E := fun z cy => .inl (cy 19, xz h a, .inl (upd (xI h a) i.toNatClampNeg (vp_nar .boolean v)))) (a := a) (by omega) rfl rfl (fun _ => rfl) (fun z cy => by rw [ce_I (t := 19) (by exact g) (by decide) (by decide) (by decide), eu]; rfl) (fun z cy b hb => ce_pI hb) (fun p l e R s m args below meth c w H locs cells slots Q ls q0 hx hb hown hts hK hnm hH hD hS hq hr kk => ?_) kk
  rw [ce_I (t := 19) (by exact g) (by decide) (by decide) (by decide)] at hq
  show W p l e R s m args below meth c H locs cells slots Q (F0 m pc ls (.int v :: .int i :: rv w.1 a :: st))
  rw [hr]
  exact va_zast hx hb hK.1 hH.2.2.2.2 hD hS q0 3 hq rfl gi hd (fun H1 locs1 a b c => kk H1 locs1 a b c)
theorem J_aald {a t t0 : Nat} {Cn : String} {i : Int32} (h1 : ¬ t < 20) (h2 : t < 23) (ht : ∀ cy, (tysA cy)[t0]? = some (cy t, .object Cn)) (hd : decode cc pc = .ok (.aaload, 1)) (g : xc h a = t) (gi : gx i (xz h a)) (kk : J x (cc, own, nm, ret, F, L, nl) K (pc + 1) lv (rv (zx x) (xR h a i.toNatClampNeg) :: st) h f) : J x (cc, own, nm, ret, F, L, nl) K pc lv (.int i :: rv (zx x) a :: st) h f := by
  refine J.reads (s1 := fun z => .int i :: rv z a :: st) (s2 := fun z => rv z (xR h a i.toNatClampNeg) :: st) (a := a) (by omega) (fun p l e R s m args below meth c w H locs cells slots Q ls q0 hx hb hown hts hK hP hq hr kk => ?_) kk
  rw [ce_R g (by omega) (by omega) (by omega)] at hq
  show W p l e R s m args below meth c H locs cells slots Q (F0 m pc ls (.int i :: rv w.1 a :: st))
  rw [hr]
  exact va_aldq hx hb hK.1 hP q0 t0 hq (ht _) gi hd kk
theorem J_aast {a t t0 v ci N : Nat} {Cn : String} {T : u_T} {ty : Nat → FieldType} (kc : KC ci Cn T N ty) {i : Int32} (h1 : ¬ t < 20) (h2 : t < 23) (ht : ∀ cy, (tysA cy)[t0]? = some (cy t, .object Cn)) (hd : decode cc pc = .ok (.aastore, 1)) (g : xc h a = t) (gi : gx i (xz h a)) (gv : xc h v = ci) (kk : J x (cc, own, nm, ret, F, L, nl) K (pc + 1) lv st (pR h a i.toNatClampNeg v) f) : J x (cc, own, nm, ret, F, L, nl) K pc lv (rv (zx x) v :: .int i :: rv (zx x) a :: st) h f := by
  obtain ⟨k1, k2, -⟩ := kc
  have eu : ∀ z, v ≠ 0 → (fun j => ro z (xR (pR h a i.toNatClampNeg v) a j)) = va_up (fun j => ro z (xR h a j)) i.toNatClampNeg (some (z + v)) := by
    intro z hv
    funext j
    rw [xR_pR]
    unfold va_up
    by_cases e : j = i.toNatClampNeg
    · rw [if_pos ⟨rfl, e⟩, if_pos e]
      simp [ro, hv]
    · rw [if_neg (fun q => e q.2), if_neg e]
  by_cases hv : v = 0
  · obtain ⟨p, l, e, R, s, m, args, below, meth, c, w, h0, nL⟩ := x
    intro r h' ef
    obtain ⟨q1, -⟩ := kk r h' ef
    exact ⟨q1, fun _ _ _ _ _ H locs ls hH _ _ => absurd hv (hH.pos (a := v) (by omega)).1⟩
  refine J.writes (s1 := fun z => rv z v :: .int i :: rv z a :: st) (s2 := fun _ => st) (h2 := pR h a i.toNatClampNeg v) (E := fun z cy => .inl (cy t, xz h a, .inr (.inr (.inr (.inr (va_up (fun j => ro z (xR h a j)) i.toNatClampNeg (some (z + v)))))))) (a := a) (by omega) rfl rfl (fun _ => rfl) (fun z cy => by rw [ce_R (t := t) (by exact g) (by omega) (by omega) (by omega), eu z hv]; rfl) (fun z cy b hb => ce_pR hb) (fun p l e R s m args below meth c w H locs cells slots Q ls q0 hx hb hown hts hK hnm hH hD hS hq hr kk => ?_) kk
  rw [ce_R g (by omega) (by omega) (by omega)] at hq
  show W p l e R s m args below meth c H locs cells slots Q (F0 m pc ls (rv w.1 v :: .int i :: rv w.1 a :: st))
  rw [hr, rv_pos hv]
  obtain ⟨k0, -, hk0⟩ := pw_get (z := w.1) (cy := w.2.2.1) (hH.pos (a := v) (by omega)).2 (by omega : xc h v < 23)
  rw [ce_obj gv k1] at hk0
  exact va_astq hx hb hK.1 hH.2.2.2.2 hD hS q0 t0 k0 ci (r := (Cn, T, N)) hq (ht _) hk0 k2 gi hd (fun H1 locs1 a b c => kk H1 locs1 a b c)
theorem J_alen16 {a : Nat} (hd : decode cc pc = .ok (.arraylength, 1)) (g : xc h a = 16) (kk : J x (cc, own, nm, ret, F, L, nl) K (pc + 1) lv (.int (nI (xz h a)) :: st) h f) : J x (cc, own, nm, ret, F, L, nl) K pc lv (rv (zx x) a :: st) h f := by
  refine J.reads (s1 := fun z => rv z a :: st) (s2 := fun _ => .int (nI (xz h a)) :: st) (a := a) (by omega) (fun p l e R s m args below meth c w H locs cells slots Q ls q0 hx hb hown hts hK hP hq hr kk => ?_) kk
  rw [ce_I g (by decide) (by decide) (by decide)] at hq
  show W p l e R s m args below meth c H locs cells slots Q (F0 m pc ls (rv w.1 a :: st))
  rw [hr]
  exact va_alen hx hb hK.1 hP q0 0 hq rfl rfl hd kk
theorem J_alen17 {a : Nat} (hd : decode cc pc = .ok (.arraylength, 1)) (g : xc h a = 17) (kk : J x (cc, own, nm, ret, F, L, nl) K (pc + 1) lv (.int (nI (xz h a)) :: st) h f) : J x (cc, own, nm, ret, F, L, nl) K pc lv (rv (zx x) a :: st) h f := by
  refine J.reads (s1 := fun z => rv z a :: st) (s2 := fun _ => .int (nI (xz h a)) :: st) (a := a) (by omega) (fun p l e R s m args below meth c w H locs cells slots Q ls q0 hx hb hown hts hK hP hq hr kk => ?_) kk
  rw [ce_J g] at hq
  show W p l e R s m args below meth c H locs cells slots Q (F0 m pc ls (rv w.1 a :: st))
  rw [hr]
  exact va_alen hx hb hK.1 hP q0 1 hq rfl rfl hd kk
theorem J_alen18 {a : Nat} (hd : decode cc pc = .ok (.arraylength, 1)) (g : xc h a = 18) (kk : J x (cc, own, nm, ret, F, L, nl) K (pc + 1) lv (.int (nI (xz h a)) :: st) h f) : J x (cc, own, nm, ret, F, L, nl) K pc lv (rv (zx x) a :: st) h f := by
  refine J.reads (s1 := fun z => rv z a :: st) (s2 := fun _ => .int (nI (xz h a)) :: st) (a := a) (by omega) (fun p l e R s m args below meth c w H locs cells slots Q ls q0 hx hb hown hts hK hP hq hr kk => ?_) kk
  rw [ce_I g (by decide) (by decide) (by decide)] at hq
  show W p l e R s m args below meth c H locs cells slots Q (F0 m pc ls (rv w.1 a :: st))
  rw [hr]
  exact va_alen hx hb hK.1 hP q0 2 hq rfl rfl hd kk
theorem J_alen19 {a : Nat} (hd : decode cc pc = .ok (.arraylength, 1)) (g : xc h a = 19) (kk : J x (cc, own, nm, ret, F, L, nl) K (pc + 1) lv (.int (nI (xz h a)) :: st) h f) : J x (cc, own, nm, ret, F, L, nl) K pc lv (rv (zx x) a :: st) h f := by
  refine J.reads (s1 := fun z => rv z a :: st) (s2 := fun _ => .int (nI (xz h a)) :: st) (a := a) (by omega) (fun p l e R s m args below meth c w H locs cells slots Q ls q0 hx hb hown hts hK hP hq hr kk => ?_) kk
  rw [ce_I g (by decide) (by decide) (by decide)] at hq
  show W p l e R s m args below meth c H locs cells slots Q (F0 m pc ls (rv w.1 a :: st))
  rw [hr]
  exact va_alen hx hb hK.1 hP q0 3 hq rfl rfl hd kk
theorem J_alenR {a t t0 : Nat} {Cn : String} (h1 : ¬ t < 20) (h2 : t < 23) (ht : ∀ cy, (tysA cy)[t0]? = some (cy t, .object Cn)) (hd : decode cc pc = .ok (.arraylength, 1)) (g : xc h a = t) (kk : J x (cc, own, nm, ret, F, L, nl) K (pc + 1) lv (.int (nI (xz h a)) :: st) h f) : J x (cc, own, nm, ret, F, L, nl) K pc lv (rv (zx x) a :: st) h f := by
  refine J.reads (s1 := fun z => rv z a :: st) (s2 := fun _ => .int (nI (xz h a)) :: st) (a := a) (by omega) (fun p l e R s m args below meth c w H locs cells slots Q ls q0 hx hb hown hts hK hP hq hr kk => ?_) kk
  rw [ce_R g (by omega) (by omega) (by omega)] at hq
  show W p l e R s m args below meth c H locs cells slots Q (F0 m pc ls (rv w.1 a :: st))
  rw [hr]
  exact va_alen hx hb hK.1 hP q0 t0 hq (ht _) rfl hd kk
end HROWS
