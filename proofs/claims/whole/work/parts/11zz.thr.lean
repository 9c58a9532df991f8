abbrev cTh : ByteArray := prog_26_method_5_code
abbrev yTh : MethodName := ⟨"java/lang/Throwable", "<init>", "(Ljava/lang/String;Ljava/lang/Throwable;ZZ)V"⟩
abbrev yEx : MethodName := ⟨"java/lang/Exception", "<init>", "(Ljava/lang/String;Ljava/lang/Throwable;ZZ)V"⟩
abbrev yRe : MethodName := ⟨"java/lang/RuntimeException", "<init>", "(Ljava/lang/String;Ljava/lang/Throwable;ZZ)V"⟩
theorem dTh_0 : decode cTh 0 = .ok (.aload_n 0, 1) := by decide +kernel
theorem dTh_1 : decode cTh 1 = .ok (.invokespecial 1, 3) := by decide +kernel
theorem dTh_4 : decode cTh 4 = .ok (.aload_n 0, 1) := by decide +kernel
theorem dTh_5 : decode cTh 5 = .ok (.aload_n 0, 1) := by decide +kernel
theorem dTh_6 : decode cTh 6 = .ok (.putfield 7, 3) := by decide +kernel
theorem dTh_9 : decode cTh 9 = .ok (.aload_n 0, 1) := by decide +kernel
theorem dTh_10 : decode cTh 10 = .ok (.getstatic 13, 3) := by decide +kernel
theorem dTh_13 : decode cTh 13 = .ok (.putfield 17, 3) := by decide +kernel
theorem dTh_16 : decode cTh 16 = .ok (.aload_n 0, 1) := by decide +kernel
theorem dTh_17 : decode cTh 17 = .ok (.getstatic 20, 3) := by decide +kernel
theorem dTh_20 : decode cTh 20 = .ok (.putfield 24, 3) := by decide +kernel
theorem dTh_23 : decode cTh 23 = .ok (.iload 4, 2) := by decide +kernel
theorem dTh_25 : decode cTh 25 = .ok (.ifCond .eq 11, 3) := by decide +kernel
theorem dTh_36 : decode cTh 36 = .ok (.aload_n 0, 1) := by decide +kernel
theorem dTh_37 : decode cTh 37 = .ok (.aconst_null, 1) := by decide +kernel
theorem dTh_38 : decode cTh 38 = .ok (.putfield 17, 3) := by decide +kernel
theorem dTh_41 : decode cTh 41 = .ok (.aload_n 0, 1) := by decide +kernel
theorem dTh_42 : decode cTh 42 = .ok (.aload_n 1, 1) := by decide +kernel
theorem dTh_43 : decode cTh 43 = .ok (.putfield 31, 3) := by decide +kernel
theorem dTh_46 : decode cTh 46 = .ok (.aload_n 0, 1) := by decide +kernel
theorem dTh_47 : decode cTh 47 = .ok (.aload_n 2, 1) := by decide +kernel
theorem dTh_48 : decode cTh 48 = .ok (.putfield 7, 3) := by decide +kernel
theorem dTh_51 : decode cTh 51 = .ok (.iload_n 3, 1) := by decide +kernel
theorem dTh_52 : decode cTh 52 = .ok (.ifCond .ne 8, 3) := by decide +kernel
theorem dTh_55 : decode cTh 55 = .ok (.aload_n 0, 1) := by decide +kernel
theorem dTh_56 : decode cTh 56 = .ok (.aconst_null, 1) := by decide +kernel
theorem dTh_57 : decode cTh 57 = .ok (.putfield 24, 3) := by decide +kernel
theorem dTh_60 : decode cTh 60 = .ok (.return_, 1) := by decide +kernel
abbrev cEx : ByteArray := prog_18_method_5_code
theorem dEx_0 : decode cEx 0 = .ok (.aload_n 0, 1) := by decide +kernel
theorem dEx_1 : decode cEx 1 = .ok (.aload_n 1, 1) := by decide +kernel
theorem dEx_2 : decode cEx 2 = .ok (.aload_n 2, 1) := by decide +kernel
theorem dEx_3 : decode cEx 3 = .ok (.iload_n 3, 1) := by decide +kernel
theorem dEx_4 : decode cEx 4 = .ok (.iload 4, 2) := by decide +kernel
theorem dEx_6 : decode cEx 6 = .ok (.invokespecial 16, 3) := by decide +kernel
theorem dEx_9 : decode cEx 9 = .ok (.return_, 1) := by decide +kernel
abbrev cRe : ByteArray := prog_22_method_5_code
theorem dRe_0 : decode cRe 0 = .ok (.aload_n 0, 1) := by decide +kernel
theorem dRe_1 : decode cRe 1 = .ok (.aload_n 1, 1) := by decide +kernel
theorem dRe_2 : decode cRe 2 = .ok (.aload_n 2, 1) := by decide +kernel
theorem dRe_3 : decode cRe 3 = .ok (.iload_n 3, 1) := by decide +kernel
theorem dRe_4 : decode cRe 4 = .ok (.iload 4, 2) := by decide +kernel
theorem dRe_6 : decode cRe 6 = .ok (.invokespecial 16, 3) := by decide +kernel
theorem dRe_9 : decode cRe 9 = .ok (.return_, 1) := by decide +kernel
def thZ (h : AH) (a : Nat) : AH := pR (pR (pR (pR h a 0 0) a 1 0) a 2 0) a 3 0
theorem cat_N : (Value.null).category = 1 := rfl
section THR
theorem W_put14 {p : Program} {l : Launch} {e : Env} {R : Room} {s : State} {m : MethodId} {args : Array Value} {below : List Frame} {meth : Method} {c : Code} {H H0 : Heap} {locs : List Loc} {cells slots : Nat} {Q : State → Prop} {cc : ByteArray} {pc : Nat} {ls : Array Slot} {rest : List Value} {w : WT} {ws : va_W} {k0 b index : Nat} {fs : List Value} {v : Value}
    (hx : p.tables.exec = Jvm.exec) (hb : c.code = cc) (hts : ∀ q ∈ WG, q.before args s = true) (hown : s.vm.findClass "java/lang/Throwable" = some m.cls) (hK : Kx w s) (hk0 : k0 < ws.length) (hP : va_P w.2.1 vwCl (ws.set k0 (b, .inr (14, fs))) H) (hD : va_D (fz w) (ws.set k0 (b, .inr (14, fs)))) (hS : va_S (fz w) H0 H locs) (k : Nat) (hk : k < 8) (hc : (TX14 k).1 = "java/lang/Throwable") (hf : (TX14 k).2.2.2 = false) (hlen : fs.length = 8) (hw : Cond.fieldLink "java/lang/Throwable" index "java/lang/Throwable" (TX14 k).2.1 (TX14 k).2.2.1 ∈ WG) (hv : v = .null ∨ ∃ q, v = .ref q) (hty : (∃ n, tyX14 k = .object n) ∨ ∃ t, tyX14 k = .array t) (hd : decode cc pc = .ok (.putfield index, 3))
    (kk : ∀ (H1 : Heap) (locs1 : List Loc), va_P w.2.1 vwCl (ws.set k0 (b, .inr (14, fs.set k v))) H1 → va_D (fz w) (ws.set k0 (b, .inr (14, fs.set k v))) → va_S (fz w) H0 H1 locs1 → W p l e R s m args below meth c H1 locs1 cells slots Q (F0 m (pc + 3) ls rest)) : W p l e R s m args below meth c H locs cells slots Q (F0 m pc ls (v :: .ref b :: rest)) := by
  refine va_put (D := w.2.1) (ci := 14) (C := RX14) (T := TX14) (N := 8) hx hb hts kt_14 tyX14 tyX14_ok nmX14 hown hK.1 hP hD hS k0 (List.getElem?_set_self hk0) rfl k hk (hts _ hw) (fun y hy => by rw [hc] at hy; exact hy) hf (tyX14_ok k hk) ?_ ?_ (by omega) hd (fun H1 locs1 q1 q2 q3 => ?_)
  · rcases hty with ⟨n, hy⟩ | ⟨n, hy⟩ <;> rw [hy] <;> rcases hv with rfl | ⟨q, rfl⟩ <;> rfl
  · rcases hty with ⟨n, hy⟩ | ⟨n, hy⟩ <;> rw [hy] <;> rcases hv with rfl | ⟨q, rfl⟩ <;> rfl
  · rw [List.set_set] at q1 q2
    exact kk H1 locs1 q1 q2 q3
theorem zq_val {C n d : String} {A : Nat → Prop} {U : State} {H : Heap} (h : va_Zq C n d A U H) : ∃ v : Value, (v = .null ∨ ∃ q, v = .ref q) ∧ va_Z C n d v A U H := by
  rcases h with h | ⟨t, h⟩
  · exact ⟨_, Or.inl rfl, h⟩
  · exact ⟨_, Or.inr ⟨t, rfl⟩, h⟩
theorem fl_thZ {z : Nat} {h : AH} {a : Nat} (g : xc h a = 14) (v0 v1 v2 : Value) : ((((((((fl z h a).set 0 v0).set 1 v1).set 2 v2).set 1 .null).set 3 .null).set 0 .null).set 2 .null) = fl z (thZ h a) a := by
  have e1 : fl z (thZ h a) a = ((((fl z h a).set 0 (rv z 0)).set 1 (rv z 0)).set 2 (rv z 0)).set 3 (rv z 0) := by
    unfold thZ
    rw [fl_pR (ci := 14) (by exact g) (by decide) rfl, fl_pR (ci := 14) (by exact g) (by decide) rfl, fl_pR (ci := 14) (by exact g) (by decide) rfl, fl_pR (ci := 14) g (by decide) rfl]
  rw [e1]
  apply List.ext_getElem?
  intro i
  simp only [List.getElem?_set, List.length_set, fl_len g]
  rcases (show i = 0 ∨ i = 1 ∨ i = 2 ∨ i = 3 ∨ 3 < i by omega) with rfl | rfl | rfl | rfl | hi
  · simp [rv_0]
  · simp [rv_0]
  · simp [rv_0]
  · simp [rv_0]
  · have n0 : ¬ 0 = i := by omega
    have n1 : ¬ 1 = i := by omega
    have n2 : ¬ 2 = i := by omega
    have n3 : ¬ 3 = i := by omega
    simp [n0, n1, n2, n3]
variable {x : CT} {F L : Nat} {h : AH} {a : Nat}
theorem J_thBody (g : xc h a = 14) : J x (cTh, "java/lang/Throwable", "<init>", none, F, L, 5) ZV 4 [(0, rv (zx x) a), (1, .null), (2, .null), (3, .int (nI 0)), (4, .int (nI 0))] [] h (some ((), thZ h a)) := by
  obtain ⟨p, l, e, R, s, m, args, below, meth, c, w, h0, nL⟩ := x
  intro r h' ef
  cases ef
  refine ⟨⟨Nat.le_refl _, Nat.le_refl _⟩, fun C c1 c2 c3 c4 H locs ls hH hS hl => ?_⟩
  obtain ⟨hx, hb, hml, hown, hts, hlk, hr, hF, hL, rfl, hsz, hnm, hK, hSK⟩ := id C
  obtain ⟨n0, n1⟩ := hH.pos (a := a) (by omega)
  obtain ⟨k0, hd0, hk0⟩ := pw_get (z := w.1) (cy := w.2.2.1) n1 (by omega : xc h a < 23)
  have hk0l := (List.getElem?_eq_some_iff.mp hk0).1
  have hl : lv_has ls 5 [(0, rv w.1 a), (1, .null), (2, .null), (3, .int (nI 0)), (4, .int (nI 0))] := hl
  rw [rv_pos n0] at hl
  have hlen : (fl w.1 h a).length = 8 := fl_len g
  have hws : pw w.1 w.2.2.1 h = (pw w.1 w.2.2.1 h).set k0 (w.1 + a, .inr (14, fl w.1 h a)) := by
    rw [← ce_obj (z := w.1) (cy := w.2.2.1) g (by decide)]
    apply List.ext_getElem?
    intro i
    by_cases hi : k0 = i
    · subst hi; rw [List.getElem?_set_self hk0l, hk0]
    · rw [List.getElem?_set_ne hi]
  have hP := hH.2.2.2.2
  have hD := pw_D (z := w.1) (cy := w.2.2.1) hH.2.2.1
  rw [hws] at hP hD
  have hSS : va_S (fz w) H H locs := ⟨Nat.le_refl _, fun _ _ _ => rfl, hS.2.2⟩
  obtain ⟨v1, hv1, hz1⟩ := zq_val hSK.2.2.2.1.1
  obtain ⟨v2, hv2, hz2⟩ := zq_val hSK.2.2.2.2.1.1
  refine lv_aload_n hx hb dTh_4 rfl (lv_at hl 0 rfl) ?_
  refine lv_aload_n hx hb dTh_5 rfl (lv_at hl 0 rfl) ?_
  refine W_put14 hx hb hts hown hK hk0l hP hD hSS 0 (by decide) rfl rfl hlen kw_6_117 (Or.inr ⟨_, rfl⟩) (Or.inl ⟨_, rfl⟩) dTh_6 (fun H1 locs1 hP hD hS1 => ?_)
  refine lv_aload_n hx hb dTh_9 rfl (lv_at hl 0 rfl) ?_
  refine va_gets hx hb hz1 (hS.trans2 hS1) hown (hts _ kw_6_91) (fun _ h => h) dTh_10 ?_
  refine W_put14 hx hb hts hown hK hk0l hP hD hS1 1 (by decide) rfl rfl (by simp [hlen]) kw_6_118 hv1 (Or.inr ⟨_, rfl⟩) dTh_13 (fun H1 locs1 hP hD hS1 => ?_)
  refine lv_aload_n hx hb dTh_16 rfl (lv_at hl 0 rfl) ?_
  refine va_gets hx hb hz2 (hS.trans2 hS1) hown (hts _ kw_6_93) (fun _ h => h) dTh_17 ?_
  refine W_put14 hx hb hts hown hK hk0l hP hD hS1 2 (by decide) rfl rfl (by simp [hlen]) kw_6_119 hv2 (Or.inl ⟨_, rfl⟩) dTh_20 (fun H1 locs1 hP hD hS1 => ?_)
  refine lv_iload hx hb dTh_23 (lv_at hl 4 rfl) ?_
  refine lv_if_eq (tgt := 36) hx hb dTh_25 rfl (fun _ => ?_) (fun n => absurd (by decide) n)
  refine lv_aload_n hx hb dTh_36 rfl (lv_at hl 0 rfl) ?_
  refine lv_null hx hb dTh_37 ?_
  refine W_put14 hx hb hts hown hK hk0l hP hD hS1 1 (by decide) rfl rfl (by simp [hlen]) kw_6_118 (Or.inl rfl) (Or.inr ⟨_, rfl⟩) dTh_38 (fun H1 locs1 hP hD hS1 => ?_)
  refine lv_aload_n hx hb dTh_41 rfl (lv_at hl 0 rfl) ?_
  refine lv_aload_nN hx hb dTh_42 rfl (lv_at hl 1 rfl) ?_
  refine W_put14 hx hb hts hown hK hk0l hP hD hS1 3 (by decide) rfl rfl (by simp [hlen]) kw_6_116 (Or.inl rfl) (Or.inl ⟨_, rfl⟩) dTh_43 (fun H1 locs1 hP hD hS1 => ?_)
  refine lv_aload_n hx hb dTh_46 rfl (lv_at hl 0 rfl) ?_
  refine lv_aload_nN hx hb dTh_47 rfl (lv_at hl 2 rfl) ?_
  refine W_put14 hx hb hts hown hK hk0l hP hD hS1 0 (by decide) rfl rfl (by simp [hlen]) kw_6_117 (Or.inl rfl) (Or.inl ⟨_, rfl⟩) dTh_48 (fun H1 locs1 hP hD hS1 => ?_)
  refine lv_iload_n hx hb dTh_51 rfl (lv_at hl 3 rfl) ?_
  refine lv_if_ne (tgt := 60) hx hb dTh_52 rfl (fun n => absurd (by decide) n) (fun _ => ?_)
  refine lv_aload_n hx hb dTh_55 rfl (lv_at hl 0 rfl) ?_
  refine lv_null hx hb dTh_56 ?_
  refine W_put14 hx hb hts hown hK hk0l hP hD hS1 2 (by decide) rfl rfl (by simp [hlen]) kw_6_119 (Or.inl rfl) (Or.inl ⟨_, rfl⟩) dTh_57 (fun H1 locs1 hP hD hS1 => ?_)
  rw [fl_thZ g] at hP hD
  have hcc : ∀ b, xc (thZ h a) b = xc h b := fun _ => rfl
  have hset : (pw w.1 w.2.2.1 h).set k0 (w.1 + a, .inr (14, fl w.1 (thZ h a) a)) = pw w.1 w.2.2.1 (thZ h a) := pw_set hd0 rfl hcc (ce_obj (ci := 14) g (by decide)) (fun b hb => by
    unfold thZ
    rw [ce_pR hb, ce_pR hb, ce_pR hb, ce_pR hb])
  rw [hset] at hP
  have hH1 : HR w (thZ h a) H1 := ⟨Nat.le_trans hH.1 hS1.1, hH.2.1, hH.2.2.1, hH.2.2.2.1, hP⟩
  refine W.widen c1 c2 ?_
  exact W.vret hx hb hr (fun t ht hW => ⟨rfl, by rw [ht]; exact hH1, (hS.trans2 hS1).F ht⟩) hS1.2.2 dTh_60 hlk
end THR
theorem ctTh (l : Launch) (w : WT) (a : Nat) (h : AH) : CM l w yTh cTh 5 none 1 20 KV [rv w.1 a, .null, .null, .int (nI 0), .int (nI 0)] h (G (xc h a = 14) (some ((), thZ h a))) :=
  CM.of (by decide +kernel) (by simp [lg_sl, rv_cat, cat_I, cat_N]) (lv := [(0, rv w.1 a), (1, .null), (2, .null), (3, .int (nI 0)), (4, .int (nI 0))]) (by simp [lv_args, rv_cat, cat_I, cat_N]) (fun x hx => by
    subst hx
    refine J_G (fun g => ?_)
    refine J_aload_n 0 dTh_0 rv_is rfl ?_
    refine J_objInit kw_6_90 kw_1_35 kw_1_36 (by decide) dTh_1 (by omega) ?_
    exact J_thBody g)
theorem ctEx (l : Launch) (w : WT) (a : Nat) (h : AH) : CM l w yEx cEx 5 none 2 44 KV [rv w.1 a, .null, .null, .int (nI 0), .int (nI 0)] h (G (xc h a = 14) (some ((), thZ h a))) :=
  CM.of (by decide +kernel) (by simp [lg_sl, rv_cat, cat_I, cat_N]) (lv := [(0, rv w.1 a), (1, .null), (2, .null), (3, .int (nI 0)), (4, .int (nI 0))]) (by simp [lv_args, rv_cat, cat_I, cat_N]) (fun x hx => by
    subst hx
    have e0 : G (xc h a = 14) (some ((), thZ h a)) = G (xc h a = 14) (BN (G (xc h a = 14) (some ((), thZ h a))) (fun _ h => some ((), h))) := by
      unfold G; split <;> rfl
    rw [e0]
    refine J_G (fun g => ?_)
    refine J_aload_n 0 dEx_0 rv_is rfl ?_
    refine J_aload_n 1 dEx_1 (Or.inl rfl) rfl ?_
    refine J_aload_n 2 dEx_2 (Or.inl rfl) rfl ?_
    refine J_iload_n 3 dEx_3 rfl ?_
    refine J_iload 4 dEx_4 rfl ?_
    refine J.callI (n := 4) (As := [.null, .null, .int (nI 0), .int (nI 0)]) (ctTh (lx x) (wx x) a h) kw_6_182 kw_6_180 kw_6_181 kw_1_14 (by decide +kernel) rfl (by decide) (Nat.zero_le _) rfl dEx_6 (by omega) (fun _ h => ?_)
    show J x _ _ 9 _ [] h _
    exact J_vret dEx_9)
theorem ctRe (l : Launch) (w : WT) (a : Nat) (h : AH) : CM l w yRe cRe 5 none 3 68 KV [rv w.1 a, .null, .null, .int (nI 0), .int (nI 0)] h (G (xc h a = 14) (some ((), thZ h a))) :=
  CM.of (by decide +kernel) (by simp [lg_sl, rv_cat, cat_I, cat_N]) (lv := [(0, rv w.1 a), (1, .null), (2, .null), (3, .int (nI 0)), (4, .int (nI 0))]) (by simp [lv_args, rv_cat, cat_I, cat_N]) (fun x hx => by
    subst hx
    have e0 : G (xc h a = 14) (some ((), thZ h a)) = G (xc h a = 14) (BN (G (xc h a = 14) (some ((), thZ h a))) (fun _ h => some ((), h))) := by
      unfold G; split <;> rfl
    rw [e0]
    refine J_G (fun g => ?_)
    refine J_aload_n 0 dRe_0 rv_is rfl ?_
    refine J_aload_n 1 dRe_1 (Or.inl rfl) rfl ?_
    refine J_aload_n 2 dRe_2 (Or.inl rfl) rfl ?_
    refine J_iload_n 3 dRe_3 rfl ?_
    refine J_iload 4 dRe_4 rfl ?_
    refine J.callI (n := 4) (As := [.null, .null, .int (nI 0), .int (nI 0)]) (ctEx (lx x) (wx x) a h) kw_6_179 kw_6_177 kw_6_178 kw_1_15 (by decide +kernel) rfl (by decide) (Nat.zero_le _) rfl dRe_6 (by omega) (fun _ h => ?_)
    show J x _ _ 9 _ [] h _
    exact J_vret dRe_9)
def X14_init_f (a0 : Nat) (h : AH) : Option (Unit × AH) := G (xc h a0 = 14) (some ((), thZ h a0))
theorem ctX14_init (l : Launch) (w : WT) (a0 : Nat) (h : AH) : CM l w yX14_init cX14_init 1 none 4 92 KV [rv w.1 a0] h (X14_init_f a0 h) :=
  CM.of (by decide +kernel) (by simp [lg_sl, rv_cat]) (lv := [(0, rv w.1 a0)]) (by simp [lv_args, rv_cat]) (fun x hx => by
    subst hx
    have e0 : X14_init_f a0 h = G (xc h a0 = 14) (BN (G (xc h a0 = 14) (some ((), thZ h a0))) (fun _ h => some ((), h))) := by
      unfold X14_init_f G; split <;> rfl
    rw [e0]
    refine J_G (fun g => ?_)
    refine J_aload_n 0 dX14_init_0 rv_is rfl ?_
    refine J_aconst_null dX14_init_1 ?_
    refine J_aconst_null dX14_init_2 ?_
    refine J_iconst (v := nI 0) dX14_init_3 rfl ?_
    refine J_iconst (v := nI 0) dX14_init_4 rfl ?_
    refine J.callI (n := 4) (As := [.null, .null, .int (nI 0), .int (nI 0)]) (ctRe (lx x) (wx x) a0 h) kw_6_176 kw_6_174 kw_6_175 kw_1_16 (by decide +kernel) rfl (by decide) (Nat.zero_le _) rfl dX14_init_5 (by omega) (fun _ h => ?_)
    show J x _ _ 8 _ [] h _
    exact J_vret dX14_init_8)
