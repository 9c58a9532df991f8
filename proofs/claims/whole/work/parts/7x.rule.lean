/-- a clause, written -/
theorem cs_any (g : Nat × Bool → Bool) : ∀ l : CsL, (List.range l.length).any (fun i => g (csG l i)) = l.any g := by
  intro l
  induction l with
  | nil => rfl
  | cons x l ih => rw [List.length_cons, List.range_succ_eq_map, List.any_cons, List.any_map, List.any_cons, ← ih]; rfl
section
variable {B : BK} {c r pl tg now : Nat} {l : CsL}
theorem clB_e {k i : Nat} (h : ¬ (i = c ∧ 10 ≤ k ∧ k ≤ 14)) (h2 : k ≠ 20 + c) (h4 : k ≠ 40 + c) : clB B c r pl tg now l k i = B k i := by
  unfold clB
  rw [if_neg (by omega), if_neg (by omega), if_neg (by omega), if_neg (by omega), if_neg (by omega), if_neg h2, if_neg h4]
theorem clB_10 : clB B c r pl tg now l 10 c = r := if_pos ⟨rfl, rfl⟩
theorem clB_11 : clB B c r pl tg now l 11 c = pl := by unfold clB; rw [if_neg (by omega), if_pos ⟨rfl, rfl⟩]
theorem clB_12 : clB B c r pl tg now l 12 c = tg := by unfold clB; rw [if_neg (by omega), if_neg (by omega), if_pos ⟨rfl, rfl⟩]
theorem clB_13 : clB B c r pl tg now l 13 c = now := by unfold clB; rw [if_neg (by omega), if_neg (by omega), if_neg (by omega), if_pos ⟨rfl, rfl⟩]
theorem clB_14 : clB B c r pl tg now l 14 c = l.length := by unfold clB; rw [if_neg (by omega), if_neg (by omega), if_neg (by omega), if_neg (by omega), if_pos ⟨rfl, rfl⟩]
theorem clB_20 {i : Nat} : clB B c r pl tg now l (20 + c) i = (csG l i).1 := by
  unfold clB
  rw [if_neg (by omega), if_neg (by omega), if_neg (by omega), if_neg (by omega), if_neg (by omega), if_pos rfl]
theorem clB_40 {i : Nat} : clB B c r pl tg now l (40 + c) i = if (csG l i).2 = true then 1 else 0 := by
  unfold clB
  rw [if_neg (by omega), if_neg (by omega), if_neg (by omega), if_neg (by omega), if_neg (by omega), if_neg (by omega), if_pos rfl]
theorem clB_ask {x : Nat} : askB (clB B c r pl tg now l) c x = csA l false x := by
  unfold askB csA
  rw [clB_14, ← cs_any]
  congr 1
  funext i
  rw [clB_20, clB_40]
  cases (csG l i).2 <;> rfl
theorem clB_not {x : Nat} : notB (clB B c r pl tg now l) c x = csA l true x := by
  unfold notB csA
  rw [clB_14, ← cs_any]
  congr 1
  funext i
  rw [clB_20, clB_40]
  cases (csG l i).2 <;> rfl
theorem cl_new {h : AH} {a : Nat} (v : CsC h a l) (e3 : xI h a 3 = nI r) (e6 : xI h a 6 = nI pl - nI 1) (e8 : c < 10 → xI h a 8 = nI now) (e7 : 10 ≤ c → xI h a 7 = nI tg) : IsCl h a (clB B c r pl tg now l) c := by
  refine ⟨v.s, by rw [clB_14]; exact v.n, by rw [clB_10]; exact e3, by rw [clB_11]; exact e6, fun z => by rw [clB_13]; exact e8 z, fun z => by rw [clB_12]; exact e7 z, fun i hi => ?_, fun i hi => ?_, fun x hx => by rw [clB_ask]; exact v.k x hx, fun x hx => by rw [clB_not]; exact v.t x hx⟩
  · rw [clB_14] at hi; rw [clB_20]; exact v.cr i hi
  · rw [clB_14] at hi; rw [clB_40, v.cn i hi]; cases (csG l i).2 <;> rfl
theorem csG_m {i : Nat} (h : i < l.length) : csG l i ∈ l := by
  have e : csG l i = l[i] := by unfold csG; rw [List.getD_eq_getElem?_getD, List.getElem?_eq_getElem h]; rfl
  rw [e]; exact List.getElem_mem h
theorem WC_new (hr : r < B 1 0) (hp : pl ≤ B 0 0) (h1 : 1 ≤ l.length) (h3 : l.length ≤ 3) (hl : ∀ x, x ∈ l → x.1 < B 1 0) : WC (clB B c r pl tg now l) c := by
  have e0 : clB B c r pl tg now l 0 0 = B 0 0 := clB_e (by omega) (by omega) (by omega)
  have e1 : clB B c r pl tg now l 1 0 = B 1 0 := clB_e (by omega) (by omega) (by omega)
  refine ⟨by rw [clB_10, e1]; exact hr, by rw [clB_11, e0]; exact hp, by rw [clB_14]; exact h3, fun i hi => ?_, fun i hi => ?_, by rw [clB_14]; exact h1⟩
  · rw [clB_14] at hi; rw [clB_20, e1]; exact hl _ (csG_m hi)
  · rw [clB_40]; cases (csG l i).2 <;> decide
end
theorem IsCl.up {h : AH} {a c k v : Nat} {B : BK} (hk : k < 10) (q : IsCl h a B c) : IsCl h a (upB B k 0 v) c := q.cg (fun x hx => upB_n (by omega)) (fun i => upB_n (by omega)) (fun i => upB_n (by omega))
theorem WC.up {c k v : Nat} {B : BK} (hk : k = 3 ∨ k = 4) (q : WC B c) : WC (upB B k 0 v) c := q.cg (by rw [upB_n (by omega)]; exact Nat.le_refl _) (by rw [upB_n (by omega)]; exact Nat.le_refl _) (fun x hx => upB_n (by omega)) (fun i => upB_n (by omega)) (fun i => upB_n (by omega))
/-- a rule, counted -/
def ruB (B : BK) (r pl now : Nat) (l : CsL) : BK := upB (clB B (B 3 0) r pl 0 now l) 3 0 (B 3 0 + 1)
theorem ruB_3 {B : BK} {r pl now : Nat} {l : CsL} : ruB B r pl now l 3 0 = B 3 0 + 1 := upB_s
theorem ruB_e {B : BK} {r pl now k i : Nat} {l : CsL} (h : ¬ (k = 3 ∧ i = 0)) (h1 : ¬ (i = B 3 0 ∧ 10 ≤ k ∧ k ≤ 14)) (h2 : k ≠ 20 + B 3 0) (h4 : k ≠ 40 + B 3 0) : ruB B r pl now l k i = B k i := by unfold ruB; rw [upB_n h, clB_e h1 h2 h4]
theorem ruB_c {B : BK} {r pl now k i : Nat} {l : CsL} (h : ¬ (k = 3 ∧ i = 0)) : ruB B r pl now l k i = clB B (B 3 0) r pl 0 now l k i := by unfold ruB; rw [upB_n h]
theorem WB_u {B : BK} {r pl now : Nat} {l : CsL} (w : WB B) (u : B 3 0 < 10) (hr : r < B 1 0) (hp : pl ≤ B 0 0) (h1 : 1 ≤ l.length) (h3 : l.length ≤ 3) (hl : ∀ x, x ∈ l → x.1 < B 1 0) (hn : now ≤ 1) (hn1 : now = 1 → ∀ x, x ∈ l → x.2 = false) : WB (ruB B r pl now l) := by
  have sn := w.s
  have E : ∀ k i, k < 10 → k ≠ 3 → ruB B r pl now l k i = B k i := fun k i a b => ruB_e (by omega) (by omega) (by omega) (by omega)
  have P : ∀ k i, 60 ≤ k → ruB B r pl now l k i = B k i := fun k i a => ruB_e (by omega) (by omega) (by omega) (by omega)
  have cg : ∀ c, c ≠ B 3 0 → c < 16 → WC B c → WC (ruB B r pl now l) c := fun c hc h6 q => q.cg (by rw [E _ _ (by decide) (by decide)]; exact Nat.le_refl _) (by rw [E _ _ (by decide) (by decide)]; exact Nat.le_refl _) (fun k hk => ruB_e (by omega) (by omega) (by omega) (by omega)) (fun i => ruB_e (by omega) (by omega) (by omega) (by omega)) (fun i => ruB_e (by omega) (by omega) (by omega) (by omega))
  have e4 : ruB B r pl now l 4 0 = B 4 0 := E _ _ (by decide) (by decide)
  have e2 : ruB B r pl now l 2 0 = B 2 0 := E _ _ (by decide) (by decide)
  have e6 : ruB B r pl now l 60 0 = B 60 0 := P _ _ (by decide)
  have e7 : ruB B r pl now l 61 0 = B 61 0 := P _ _ (by decide)
  refine ⟨by rw [E _ _ (by decide) (by decide)]; exact w.m, by rw [E _ _ (by decide) (by decide)]; exact w.r, by rw [e2]; exact w.f, by rw [ruB_3]; omega, by rw [e4]; exact w.s, by rw [E _ _ (by decide) (by decide)]; exact w.y, by rw [E _ _ (by decide) (by decide)]; exact w.k, fun i hi => ?_, fun i hi => ?_, fun i hi => ?_, fun i hi => ?_, fun i hi => ?_, fun i hi => ?_, fun i hi z k hk => ?_, fun i hi => ?_, fun i hi => ?_, by rw [e6]; exact w.ne, by rw [e7]; exact w.no, fun i hi => ?_, fun i hi => ?_, fun i hi => ?_, fun i hi => ?_⟩
  · rw [e2] at hi; rw [E _ _ (by decide) (by decide), E _ _ (by decide) (by decide)]; exact w.fr i hi
  · rw [e2] at hi; rw [E _ _ (by decide) (by decide), E _ _ (by decide) (by decide)]; exact w.fm i hi
  · rw [e2] at hi; rw [E _ _ (by decide) (by decide), E _ _ (by decide) (by decide)]; exact w.fy i hi
  · rw [ruB_3] at hi
    by_cases j : i = B 3 0
    · rw [j]; exact (WC_new hr hp h1 h3 hl).up (.inl rfl)
    · exact cg _ j (by omega) (w.ru i (by omega))
  · rw [e4] at hi; exact cg _ (by omega) (by omega) (w.se i hi)
  · rw [ruB_3] at hi
    by_cases j : i = B 3 0
    · rw [j, ruB_c (by omega), clB_13]; exact hn
    · rw [ruB_e (by omega) (by omega) (by omega) (by omega)]; exact w.nw i (by omega)
  · rw [ruB_3] at hi
    by_cases j : i = B 3 0
    · rw [j, ruB_c (by omega), clB_13] at z
      rw [j, ruB_c (by omega), clB_14] at hk
      rw [j, ruB_c (by omega), clB_40, hn1 z _ (csG_m hk)]; rfl
    · rw [ruB_e (by omega) (by omega) (by omega) (by omega)] at z hk
      rw [ruB_e (by omega) (by omega) (by omega) (by omega)]; exact w.nn i (by omega) z k hk
  · rw [e4] at hi; rw [ruB_e (by omega) (by omega) (by omega) (by omega)]; exact w.sp i hi
  · rw [e4] at hi; rw [ruB_e (by omega) (by omega) (by omega) (by omega), E _ _ (by decide) (by decide)]; exact w.st i hi
  · rw [e6] at hi; rw [P _ _ (by decide), E _ _ (by decide) (by decide)]; exact w.er i hi
  · rw [e6] at hi; rw [P _ _ (by decide), E _ _ (by decide) (by decide)]; exact w.ea i hi
  · rw [e7] at hi; rw [P _ _ (by decide), E _ _ (by decide) (by decide)]; exact w.or i hi
  · rw [e7] at hi; rw [P _ _ (by decide), E _ _ (by decide) (by decide)]; exact w.oa i hi
/-- what reading a clause at a may change -/
def RuA (a : Nat) : Nat → Nat → Prop := fun x k => FlA x k ∨ (a ≤ x ∧ x ≤ a + 2)
def RuH (B : BK) (r pl now : Nat) (l : CsL) : Prop := (r < B 1 0) ∧ (pl ≤ B 0 0) ∧ (1 ≤ l.length) ∧ (l.length ≤ 3) ∧ (∀ x, x ∈ l → x.1 < B 1 0) ∧ (now ≤ 1) ∧ (now = 1 → ∀ x, x ∈ l → x.2 = false)
theorem RuH.r {B : BK} {r pl now : Nat} {l : CsL} (q_ : RuH B r pl now l) : r < B 1 0 := q_.1
theorem RuH.p {B : BK} {r pl now : Nat} {l : CsL} (q_ : RuH B r pl now l) : pl ≤ B 0 0 := q_.2.1
theorem RuH.o {B : BK} {r pl now : Nat} {l : CsL} (q_ : RuH B r pl now l) : 1 ≤ l.length := q_.2.2.1
theorem RuH.t {B : BK} {r pl now : Nat} {l : CsL} (q_ : RuH B r pl now l) : l.length ≤ 3 := q_.2.2.2.1
theorem RuH.l {B : BK} {r pl now : Nat} {l : CsL} (q_ : RuH B r pl now l) : ∀ x, x ∈ l → x.1 < B 1 0 := q_.2.2.2.2.1
theorem RuH.n {B : BK} {r pl now : Nat} {l : CsL} (q_ : RuH B r pl now l) : now ≤ 1 := q_.2.2.2.2.2.1
theorem RuH.m {B : BK} {r pl now : Nat} {l : CsL} (q_ : RuH B r pl now l) : now = 1 → ∀ x, x ∈ l → x.2 = false := q_.2.2.2.2.2.2
theorem cb_rule {h h' : AH} {b r pl now : Nat} {B : BK} {l : CsL} (q : IsCB h b B) (hb : b = 2 ∨ b = 63) (u : B 3 0 < 10) (F : Fz (fun x k => RuA (b + 8 + 3 * B 3 0) x k ∨ x = b ∧ k = 3) h h') (v : CsC h' (b + 8 + 3 * B 3 0) l) (e3 : xI h' (b + 8 + 3 * B 3 0) 3 = nI r) (e6 : xI h' (b + 8 + 3 * B 3 0) 6 = nI pl - nI 1) (e8 : xI h' (b + 8 + 3 * B 3 0) 8 = nI now) (ec : xI h' b 3 = nI (B 3 0 + 1)) (H : RuH B r pl now l) : IsCB h' b (ruB B r pl now l) := by
  have sn := q.w.s
  have E : ∀ k i, k < 10 → k ≠ 3 → ruB B r pl now l k i = B k i := fun k i a b => ruB_e (by omega) (by omega) (by omega) (by omega)
  have P : ∀ k i, 60 ≤ k → ruB B r pl now l k i = B k i := fun k i a => ruB_e (by omega) (by omega) (by omega) (by omega)
  have I : ∀ x k, b ≤ x ∧ x ≤ b + 55 → ¬ (b + 8 + 3 * B 3 0 ≤ x ∧ x ≤ b + 8 + 3 * B 3 0 + 2) → ¬ (x = b ∧ k = 3) → xI h' x k = xI h x k := fun x k a1 a2 a3 => F.I (by unfold RuA FlA; omega)
  have cl : ∀ a i, i ≠ B 3 0 → i < 16 → b + 8 ≤ a ∧ a + 2 ≤ b + 55 → (a + 2 < b + 8 + 3 * B 3 0 ∨ b + 8 + 3 * B 3 0 + 2 < a) → IsCl h a B i → IsCl h' a (ruB B r pl now l) i := fun a i hi h6 ha h8 q => (q.fz F (by omega) (fun k => by unfold RuA FlA; omega)).cg (fun k hk => ruB_e (by omega) (by omega) (by omega) (by omega)) (fun j => ruB_e (by omega) (by omega) (by omega) (by omega)) (fun j => ruB_e (by omega) (by omega) (by omega) (by omega))
  refine ⟨q.s.fz F, WB_u q.w u H.r H.p H.o H.t H.l H.n H.m, ?_, ?_, ?_, by rw [ruB_3]; exact ec, ?_, ?_, ?_, ?_, ?_, fun i hi => ?_, fun i hi => ?_, fun i hi => ?_, fun i hi => ?_, fun i hi => ?_, fun i hi => ?_, fun i hi => ?_⟩
  · rw [I _ _ (by omega) (by omega) (by omega), E _ _ (by decide) (by decide)]; exact q.m
  · rw [I _ _ (by omega) (by omega) (by omega), E _ _ (by decide) (by decide)]; exact q.r
  · rw [I _ _ (by omega) (by omega) (by omega), E _ _ (by decide) (by decide)]; exact q.f
  · rw [I _ _ (by omega) (by omega) (by omega), E _ _ (by decide) (by decide)]; exact q.sn
  · rw [I _ _ (by omega) (by omega) (by omega), E _ _ (by decide) (by decide)]; exact q.y
  · rw [I _ _ (by omega) (by omega) (by omega), E _ _ (by decide) (by decide)]; exact q.k
  · rw [I _ _ (by omega) (by omega) (by omega), P _ _ (by decide)]; exact q.ne
  · rw [I _ _ (by omega) (by omega) (by omega), P _ _ (by decide)]; exact q.no
  · rw [E _ _ (by decide) (by decide)] at hi; rw [I _ _ (by omega) (by omega) (by omega), E _ _ (by decide) (by decide)]; exact q.fw i hi
  · rw [E _ _ (by decide) (by decide)] at hi; rw [I _ _ (by omega) (by omega) (by omega), E _ _ (by decide) (by decide)]; exact q.fm i hi
  · rw [E _ _ (by decide) (by decide)] at hi; rw [I _ _ (by omega) (by omega) (by omega), E _ _ (by decide) (by decide)]; exact q.fb i hi
  · rw [ruB_3] at hi
    by_cases j : i = B 3 0
    · rw [j]; exact (cl_new v e3 e6 (fun _ => e8) (fun z => absurd z (by omega))).up (by decide)
    · exact cl _ _ j (by omega) (by omega) (by omega) (q.ru i (by omega))
  · rw [E _ _ (by decide) (by decide)] at hi; exact cl _ _ (by omega) (by omega) (by omega) (by omega) (q.se i hi)
  · rw [P _ _ (by decide)] at hi; rw [I _ _ (by omega) (by omega) (by omega), P _ _ (by decide), P _ _ (by decide)]; exact q.ah i hi
  · rw [P _ _ (by decide)] at hi; rw [I _ _ (by omega) (by omega) (by omega), P _ _ (by decide), P _ _ (by decide)]; exact q.be i hi
theorem rule154_c {h0 h : AH} {T : Nat → Int32} {n p b r pl now : Nat} {B : BK} {N : NmL} {l : CsL} (d : DrC h0 b B N) (u : B 3 0 < 10) (F : Fz (RuA (b + 8 + 3 * B 3 0)) h0 h) (c : CfC h T n) (t : CtC h T n p) (v : CsC h (b + 8 + 3 * B 3 0) l) (e3 : xI h (b + 8 + 3 * B 3 0) 3 = nI r) (e6 : xI h (b + 8 + 3 * B 3 0) 6 = nI pl - nI 1) (e8 : xI h (b + 8 + 3 * B 3 0) 8 = nI now) (H : RuH B r pl now l) : ∃ w h', X6_readRule_B154 58 h = some (w, h') ∧ LnO h0 h' T n b w (faE T n p, p, ruB B r pl now l, N) := by
  have hb := d.b
  have r1 : xR h 58 10 = b := by rw [F.r _ (by decide)]; exact d.r
  have s := d.q.s.fz F
  have x3 : xI h b 3 = nI (B 3 0) := by rw [F.I (by unfold RuA FlA; omega)]; exact d.q.u
  obtain ⟨h1, h1e⟩ : ∃ h1, h1 = pI h b 3 (nI (B 3 0 + 1)) := ⟨_, rfl⟩
  have F1 : Fz (fun x k => x = b ∧ k = 3) h h1 := by rw [h1e]; exact Fz.i ⟨rfl, rfl⟩
  have c1 := c.fz F1 (fun x k q => by omega)
  have t1 := t.fz F1 (fun x k q => by omega)
  have Fa : Fz (fun x k => RuA (b + 8 + 3 * B 3 0) x k ∨ x = b ∧ k = 3) h0 h1 := (F.mo (fun x k q => .inl q)).tr (F1.mo (fun x k q => .inr q))
  have q1 : IsCB h1 b (ruB B r pl now l) := cb_rule d.q hb u Fa (v.fz F1 (by omega) (fun x k q => by unfold CsW at q; omega)) (by rw [F1.I (by omega)]; exact e3) (by rw [F1.I (by omega)]; exact e6) (by rw [F1.I (by omega)]; exact e8) (by rw [h1e, xI_self]) H
  have E : ∀ k i, k < 10 → k ≠ 3 → ruB B r pl now l k i = B k i := fun k i a b => ruB_e (by omega) (by omega) (by omega) (by omega)
  have d1 : DrC h1 b (ruB B r pl now l) N := by
    refine ⟨q1, d.u.fz Fa (fun x k q => by unfold RuA FlA; omega), by rw [Fa.r _ (by decide)]; exact d.r, d.b, ?_, ?_, ?_⟩
    · rw [E _ _ (by decide) (by decide), E _ _ (by decide) (by decide)]; exact d.l
    · rw [E _ _ (by decide) (by decide), E _ _ (by decide) (by decide)]; exact d.v
    · rw [E _ _ (by decide) (by decide), E _ _ (by decide) (by decide)]; exact d.y
  obtain ⟨w, h4, e4, b4, o4⟩ := end_c (Fa.mo (fun x k q => by
    rcases q with (q | q) | q
    · exact .inl (.inl q)
    · exact .inr (by omega)
    · exact .inr (by omega))) c1 t1 d1
  unfold X6_readRule_B154
  rw [G_t c.g.c58, r1, G_t s.c, x3, nI_add, LT_e, ← h1e, G_t c1.g.c58, e4, BN_ok, G_t b4]
  exact ⟨_, _, rfl, o4⟩
theorem RuA_Dr {b i x k : Nat} (hb : b = 2 ∨ b = 63) (hi : i < 10) (q : RuA (b + 8 + 3 * i) x k) : DrA b x k := by
  rcases q with q | q
  · exact .inl (.inl q)
  · exact .inr (by omega)
theorem rule115_c {h0 h : AH} {T : Nat → Int32} {n p b r : Nat} {B : BK} {N : NmL} {now : Bool} (d : DrC h0 b B N) (u : B 3 0 < 10) (F : Fz (RuA (b + 8 + 3 * B 3 0)) h0 h) (c : CfC h T n) (t : CtC h T n p) (v : CsC h (b + 8 + 3 * B 3 0) []) (e3 : xI h (b + 8 + 3 * B 3 0) 3 = nI r) (e6 : xI h (b + 8 + 3 * B 3 0) 6 = -1) (e8 : xI h (b + 8 + 3 * B 3 0) 8 = bI now) (hr : r < B 1 0) : ∃ w h', X6_readRule_B115 58 (b + 8 + 3 * B 3 0) (bI (!now)) (b + 8 + 3 * B 3 0) 58 h = some (w, h') ∧ LnO h0 h' T n b w (lnU3 T n B N r (if now = true then 1 else 0) (csX T n N (!now) 3 (nxT T n p))) := by
  have hb := d.b
  have hR : ∀ w, 4 ≤ lkV N w → lkV N w < 99 → lkV N w - 4 < B 1 0 := fun w a e => d.ro a ((lkV_b (w := w) d.u.v).elim (fun g => by omega) id)
  obtain ⟨k1, k2, k3⟩ := csX_ok (T := T) (n := n) (no := !now) hR 3 (nxT T n p)
  have g3 : 3 < FU := FU_gt (by decide)
  have uF : NmC h N := d.u.fz F (fun x k q => by unfold RuA FlA; omega)
  obtain ⟨a, ha⟩ : ∃ a, a = b + 8 + 3 * B 3 0 := ⟨_, rfl⟩
  rw [← ha] at v e3 e6 e8 ⊢
  have aa : 2 ≤ a ∧ a + 2 < 58 ∨ 63 ≤ a ∧ a + 2 < 119 := by omega
  obtain ⟨w1, h1, e1, F1, c1, t1, x1, y1⟩ := cases_c (T := T) (n := n) (a := a) (N := N) (no := !now) aa 3 0 [] h p FU rfl rfl g3 c t uF v
  rw [List.nil_append] at x1
  unfold X6_readRule_B115 X6_readCases_f lnU3
  rw [G_t c.g.c58, e1, BN_ok]
  generalize csX T n N (!now) 3 (nxT T n p) = x at *
  have G1 : Fz (RuA (b + 8 + 3 * B 3 0)) h h1 := F1.mo (fun x k q => by
    rcases q with q | q
    · exact .inl q
    · exact .inr (by unfold CsW at q; omega))
  have Fa := F.tr G1
  have mD : ∀ x k, RuA (b + 8 + 3 * B 3 0) x k → DrA b x k := fun x k q => RuA_Dr hb u q
  by_cases z : x.1 = 0
  · obtain ⟨w1', v1⟩ := x1 z
    have J : ∀ k, k = 3 ∨ k = 6 ∨ k = 8 → xI h1 a k = xI h a k := fun k hk => F1.I (by unfold CcA FlA CsW; omega)
    have nn : nI (if now = true then 1 else 0) = bI now := by cases now <;> rfl
    have H : ∀ pl, pl ≤ B 0 0 → RuH B r pl (if now = true then 1 else 0) x.2.2 := fun pl hp => ⟨hr, hp, k3 z, k1, fun y hy => (k2 y hy).1, by cases now <;> decide, fun z y hy => (k2 y hy).2 (by cases now with | true => rfl | false => exact absurd z (by decide))⟩
    rw [w1', if_neg (by decide), if_pos z, G_t c1.g.c58, spells_c c1 t1 (by decide), BN_ok, ifB]
    unfold lnU4
    by_cases o : isW T n x.2.1 1 = true
    · obtain ⟨v2, h2, e2, F2, c2, t2, x2, y2⟩ := stepToMachine_c c1 t1 (uF.fz F1 (fun x k q => by unfold CcA FlA CsW; omega))
      have v1' := v1.fz F2 (by omega) (fun x k q => by unfold FlA; unfold CsW at q; omega)
      have J2 : ∀ k, k = 3 ∨ k = 6 ∨ k = 8 → xI h2 a k = xI h a k := fun k hk => by rw [F2.I (by unfold FlA; omega), J k hk]
      rw [if_pos o, if_pos o, G_t c1.g.c58, e2, BN_ok, G_t v1'.s.c, LT_e]
      obtain ⟨h3, h3e⟩ : ∃ h3, h3 = pI h2 a 6 v2 := ⟨_, rfl⟩
      have F3 : Fz (fun x k => x = a ∧ k = 6) h2 h3 := by rw [h3e]; exact Fz.i ⟨rfl, rfl⟩
      have c3 := c2.fz F3 (fun x k q => by omega)
      have t3 := t2.fz F3 (fun x k q => by omega)
      have v3 := v1'.fz F3 (by omega) (fun x k q => by unfold CsW at q; omega)
      have Fb : Fz (RuA (b + 8 + 3 * B 3 0)) h0 h3 := (Fa.tr (F2.mo (fun x k q => .inl q))).tr (F3.mo (fun x k q => .inr (by omega)))
      rw [← h3e, G_t v3.s.c, show xI h3 a 6 = v2 by rw [h3e, xI_self]]
      generalize nxT T n x.2.1 = q at *
      by_cases m : faM T n N q = 0
      · obtain ⟨m1, m2⟩ := x2 m
        have mb := d.ma m2
        obtain ⟨h4, e4, F4, c4, t4⟩ := step_c c3 (tkA_b t3.x).2 t3.f
        have G4 := F4.mo (fun a k => StA_Fl)
        have v4 := v3.fz G4 (by omega) (fun x k q => by unfold FlA; unfold CsW at q; omega)
        rw [m1, if_neg (nI_nm (by omega)), if_pos m, G_t c3.g.c58, e4, BN_ok]
        subst ha
        refine rule154_c d u (Fb.tr (G4.mo (fun x k q => .inl q))) c4 t4 v4 ?_ ?_ ?_ (H _ (by omega))
        · rw [G4.I (by unfold FlA; omega), F3.I (by omega), J2 _ (by omega)]; exact e3
        · rw [G4.I (by unfold FlA; omega), h3e, xI_self, m1, nI_pm (by omega), Nat.add_sub_cancel]
        · rw [G4.I (by unfold FlA; omega), F3.I (by omega), J2 _ (by omega), nn]; exact e8
      · obtain ⟨m1, m2⟩ := y2 m
        rw [m1, if_pos rfl, if_neg m]
        exact ⟨_, _, rfl, Fb.mo mD, c3, t3, fun g => absurd g m, fun _ => ⟨rfl, by rw [F3.I (by omega)]; exact m2⟩⟩
    · rw [if_neg o, if_neg o]
      subst ha
      refine rule154_c d u Fa c1 t1 v1 ?_ ?_ ?_ (H _ (Nat.zero_le _))
      · rw [J _ (by omega)]; exact e3
      · rw [J _ (by omega), e6]; decide
      · rw [J _ (by omega), nn]; exact e8
  · obtain ⟨w1', y1⟩ := y1 z
    rw [w1', if_pos (by decide), if_neg z]
    exact ⟨_, _, rfl, Fa.mo mD, c1, t1, fun g => absurd g z, fun _ => ⟨rfl, y1⟩⟩
theorem rule92_c {h0 h : AH} {T : Nat → Int32} {n p b r : Nat} {B : BK} {N : NmL} {now : Bool} (d : DrC h0 b B N) (u : B 3 0 < 10) (F : Fz (RuA (b + 8 + 3 * B 3 0)) h0 h) (c : CfC h T n) (t : CtC h T n p) (v : CsC h (b + 8 + 3 * B 3 0) []) (e3 : xI h (b + 8 + 3 * B 3 0) 3 = nI r) (e6 : xI h (b + 8 + 3 * B 3 0) 6 = -1) (e8 : xI h (b + 8 + 3 * B 3 0) 8 = bI now) (hr : r < B 1 0) : ∃ w h', X6_readRule_B92 58 (b + 8 + 3 * B 3 0) h = some (w, h') ∧ LnO h0 h' T n b w (lnU2 T n B N r now (nxT T n p)) := by
  have hb := d.b
  obtain ⟨v2, h2, e2, F2, c2, t2, x2, y2⟩ := stepTo_c c t (show 4 < 17 by decide)
  have Fb := F.tr (F2.mo (fun x k q => Or.inl q))
  have I2 : ∀ k, xI h2 (b + 8 + 3 * B 3 0) k = xI h (b + 8 + 3 * B 3 0) k := fun k => F2.I (by unfold FlA; omega)
  have v2' := v.fz F2 (by omega) (fun x k q => by unfold FlA; unfold CsW at q; omega)
  unfold X6_readRule_B92 lnU2
  rw [G_t c.g.c58, e2, BN_ok]
  generalize nxT T n p = q at *
  by_cases a : faW T n q 4 = 0
  · rw [x2 a, if_neg (by decide), if_pos a, G_t v2'.s.c, I2, e8, ifB]
    have := rule115_c (r := r) (now := now) d u Fb c2 t2 v2' (by rw [I2]; exact e3) (by rw [I2]; exact e6) (by rw [I2]; exact e8) hr
    cases now <;> exact this
  · obtain ⟨a1, a2⟩ := y2 a
    rw [a1, if_pos (by decide), if_neg a]
    exact ⟨_, _, rfl, Fb.mo (fun x k q => RuA_Dr hb u q), c2, t2, fun g => absurd g a, fun _ => ⟨rfl, a2⟩⟩
theorem rule_c {h : AH} {T : Nat → Int32} {n p b : Nat} {B : BK} {N : NmL} (c : CfC h T n) (t : CtC h T n p) (d : DrC h b B N) : ∃ w h', X6_readRule_f 58 h = some (w, h') ∧ LnO h h' T n b w (lnU T n B N p) := by
  have hb := d.b
  have w3 := d.q.w.u
  unfold X6_readRule_f lnU
  rw [G_t c.g.c58, d.r, G_t d.q.s.c, d.q.u]
  by_cases z : B 3 0 = 10
  · obtain ⟨h1, e1, o1⟩ := flaw_o (b := b) (B := B) (N := N) (k := 5) Fz.rf c t (by decide)
    rw [if_pos (by rw [z]), if_pos z, G_t c.g.c58, e1, BN_ok, G_t (by decide)]
    exact ⟨_, _, rfl, o1⟩
  · have u : B 3 0 < 10 := by omega
    have mD : ∀ x k, RuA (b + 8 + 3 * B 3 0) x k → DrA b x k := fun x k q => RuA_Dr hb u q
    rw [if_neg (by rw [nI_eI (by omega) (by omega)]; exact z), if_neg z, G_t c.g.c58, G_t d.q.s.c, d.q.s.r10, G_t d.q.s.c4, d.q.s.z4, G_gx u (by omega), nI_cl (by omega), d.q.s.ru _ u, LT_e]
    have cc := d.q.s.rc _ u
    obtain ⟨h1, e1, F1, v1, a6, a7, a8⟩ := wipe_c cc (by omega)
    have c1 := c.fz F1 (fun x k q => by omega)
    have t1 := t.fz F1 (fun x k q => by omega)
    have u1 := d.u.fz F1 (fun x k q => by omega)
    obtain ⟨y2, h2, e2, F2, c2, t2, x2, y2'⟩ := stepToRow_c c1 t1 u1
    have v2 := v1.fz F2 (by omega) (fun x k q => by unfold FlA; unfold CsW at q; omega)
    rw [G_t cc.c, e1, BN_ok, G_t c1.g.c58, e2, BN_ok, G_t v2.s.c, LT_e]
    obtain ⟨h3, h3e⟩ : ∃ h3, h3 = pI h2 (b + 8 + 3 * B 3 0) 3 y2 := ⟨_, rfl⟩
    have F3 : Fz (fun x k => x = b + 8 + 3 * B 3 0 ∧ k = 3) h2 h3 := by rw [h3e]; exact Fz.i ⟨rfl, rfl⟩
    have c3 := c2.fz F3 (fun x k q => by omega)
    have t3 := t2.fz F3 (fun x k q => by omega)
    have v3 := v2.fz F3 (by omega) (fun x k q => by unfold CsW at q; omega)
    have Fa : Fz (RuA (b + 8 + 3 * B 3 0)) h h3 := ((F1.mo (fun x k q => .inr (by omega))).tr (F2.mo (fun x k q => .inl q))).tr (F3.mo (fun x k q => .inr (by omega)))
    rw [← h3e, G_t v3.s.c, show xI h3 (b + 8 + 3 * B 3 0) 3 = y2 by rw [h3e, xI_self]]
    generalize nxT T n p = q at *
    by_cases r : faR T n N q = 0
    · obtain ⟨r1, r2, r3⟩ := x2 r
      obtain ⟨h4, e4, F4, c4, t4⟩ := step_c c3 (tkA_b t3.x).2 t3.f
      have G4 := F4.mo (fun a k => StA_Fl)
      have t4' : CtC h4 T n (nxT T n q) := t4
      clear t4
      have v4 := v3.fz G4 (by omega) (fun x k q => by unfold FlA; unfold CsW at q; omega)
      rw [r1, if_neg (nI_nm (by omega)), if_pos r, G_t c3.g.c58, e4, BN_ok, G_t c4.g.c58, spells_c c4 t4' (by decide), BN_ok, G_t v4.s.c, G_t (by cases isW T n (nxT T n q) 10 <;> decide), LT_e]
      unfold lnU1
      generalize nxT T n q = q2 at *
      obtain ⟨h5, h5e⟩ : ∃ h5, h5 = pI h4 (b + 8 + 3 * B 3 0) 8 (bI (isW T n q2 10)) := ⟨_, rfl⟩
      have F5 : Fz (fun x k => x = b + 8 + 3 * B 3 0 ∧ k = 8) h4 h5 := by rw [h5e]; exact Fz.i ⟨rfl, rfl⟩
      have c5 := c4.fz F5 (fun x k q => by omega)
      have t5 := t4'.fz F5 (fun x k q => by omega)
      have v5 := v4.fz F5 (by omega) (fun x k q => by unfold CsW at q; omega)
      have Fb : Fz (RuA (b + 8 + 3 * B 3 0)) h h5 := (Fa.tr (G4.mo (fun x k q => .inl q))).tr (F5.mo (fun x k q => .inr (by omega)))
      have f3 : xI h5 (b + 8 + 3 * B 3 0) 3 = nI (lkV N (wdV T n q) - 4) := by rw [F5.I (by omega), G4.I (by unfold FlA; omega), h3e, xI_self, r1]
      have f6 : xI h5 (b + 8 + 3 * B 3 0) 6 = -1 := by rw [F5.I (by omega), G4.I (by unfold FlA; omega), F3.I (by omega), F2.I (by unfold FlA; omega), a6]
      have f8 : xI h5 (b + 8 + 3 * B 3 0) 8 = bI (isW T n q2 10) := by rw [h5e, xI_self]
      have hr := d.ro r2 r3
      rw [← h5e, G_t v5.s.c, f8, ifB]
      cases o : isW T n q2 10 with
      | true =>
        rw [o] at f8
        rw [if_pos rfl, if_pos rfl]
        exact rule92_c d u Fb c5 t5 v5 f3 f6 f8 hr
      | false =>
        rw [o] at f8
        rw [if_neg (by decide), if_neg (by decide), G_t c5.g.c58, spells_c c5 t5 (by decide), BN_ok, ifB]
        by_cases k : isW T n q2 8 = true
        · rw [if_pos k, if_pos k]
          exact rule92_c d u Fb c5 t5 v5 f3 f6 f8 hr
        · obtain ⟨h6, e6, o6⟩ := flaw_o (b := b) (B := B) (N := N) (k := 1) (Fb.mo mD) c5 t5 (by decide)
          rw [if_neg k, if_neg k, G_t c5.g.c58, e6, BN_ok, G_t (by decide)]
          exact ⟨_, _, rfl, o6⟩
    · obtain ⟨r1, r2⟩ := y2' r
      rw [r1, if_pos rfl, if_neg r]
      exact ⟨_, _, rfl, Fa.mo mD, c3, t3, fun g => absurd g r, fun _ => ⟨rfl, by rw [F3.I (by omega)]; exact r2⟩⟩
