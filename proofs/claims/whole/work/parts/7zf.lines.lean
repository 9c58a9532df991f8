/-- a token between a and the end -/
def In_ (T : Nat → Int32) (n a q : Nat) : Prop := a ≤ q ∧ q ≤ n
theorem In_.nx {T : Nat → Int32} {n a q : Nat} (i : In_ T n a q) : In_ T n a (nxT T n q) := by
  have := nxT_b (T := T) i.2
  exact ⟨Nat.le_trans i.1 this.1, this.2.1⟩
theorem In_.op {T : Nat → Int32} {n a q s : Nat} (i : In_ T n a q) : In_ T n a (opT T n q s) := by
  unfold opT
  by_cases o : isW T n q s = true
  · rw [if_pos o]; exact i.nx
  · rw [if_neg o]; exact i
theorem In_.q {T : Nat → Int32} {n a q : Nat} {no : Bool} (i : In_ T n a q) : In_ T n a (csQ T n no q) := by
  unfold csQ
  by_cases o : csN T n no q = true
  · rw [if_pos o]; exact i.nx
  · rw [if_neg o]; exact i
theorem cs_in {T : Nat → Int32} {n a : Nat} {N : NmL} {no : Bool} : ∀ r q, In_ T n a q → In_ T n a (csX T n N no r q).2.1 := by
  intro r
  induction r with
  | zero => intro q i; unfold csX; (repeat' split) <;> exact i
  | succ r ih =>
    intro q i
    unfold csX csY
    repeat' split
    · exact ih _ i.q.nx.nx
    · exact i.q.nx
    · exact i.q
/-- a line's end -/
def Gd_ (T : Nat → Int32) (n a : Nat) (x : LnR) : Prop := In_ T n a x.2.1 ∧ (x.1 = 0 → tkK T n x.2.1 = 1)
theorem Gd_.e {T : Nat → Int32} {n a q : Nat} {B : BK} {N : NmL} (i : In_ T n a q) : Gd_ T n a (faE T n q, q, B, N) := ⟨i, fun z => by
  have z : faE T n q = 0 := z
  unfold faE at z
  by_cases k : tkK T n q = 1
  · exact k
  · rw [if_neg k] at z; exact absurd z (by decide)⟩
theorem Gd_.f {T : Nat → Int32} {n a q k : Nat} {B : BK} {N : NmL} (i : In_ T n a q) (h : k ≠ 0) : Gd_ T n a (k, q, B, N) := ⟨i, fun z => absurd z h⟩
section
variable {T : Nat → Int32} {n a p : Nat} {B : BK} {N : NmL}
theorem gd_M (i : In_ T n a p) : Gd_ T n a (lnM T n B N p) := by
  unfold lnM
  repeat' split
  · exact .f i (by decide)
  · exact .e i.nx.nx
  · exact .f i.nx (by assumption)
theorem gd_R (i : In_ T n a p) : Gd_ T n a (lnR T n B N p) := by
  unfold lnR
  by_cases z : B 1 0 = 10
  · rw [if_pos z]; exact .f i (by decide)
  · rw [if_neg z]
    by_cases y : faN T n N (nxT T n p) = 0
    · rw [if_pos y]; exact .e i.nx.nx.op
    · rw [if_neg y]; exact .f i.nx y
theorem gd_F (i : In_ T n a p) : Gd_ T n a (lnF T n B N p) := by
  unfold lnF lnF1 lnF2 lnF3
  repeat' split
  · exact .f i (by decide)
  · exact .e i.nx.nx.nx.nx.op
  · exact .f i.nx.nx.nx (by assumption)
  · exact .f i.nx.nx (by assumption)
  · exact .f i.nx (by assumption)
theorem gd_U3 {r now q : Nat} {no : Bool} (i : In_ T n a q) : Gd_ T n a (lnU3 T n B N r now (csX T n N no 3 q)) := by
  have j := cs_in (N := N) (no := no) 3 q i
  generalize csX T n N no 3 q = x at *
  unfold lnU3 lnU4
  repeat' split
  · exact .e j.nx.nx
  · exact .f j.nx (by assumption)
  · exact .e j
  · exact .f j (by assumption)
theorem gd_U (i : In_ T n a p) : Gd_ T n a (lnU T n B N p) := by
  unfold lnU
  by_cases z : B 3 0 = 10
  · rw [if_pos z]; exact .f i (by decide)
  · rw [if_neg z]
    by_cases y : faR T n N (nxT T n p) = 0
    · rw [if_pos y]
      have u2 : ∀ r now q, In_ T n a q → Gd_ T n a (lnU2 T n B N r now q) := fun r now q i => by
        unfold lnU2
        by_cases w : faW T n q 4 = 0
        · rw [if_pos w]; exact gd_U3 i.nx
        · rw [if_neg w]; exact .f i w
      unfold lnU1
      by_cases k : isW T n (nxT T n (nxT T n p)) 10 = true
      · rw [if_pos k]; exact u2 _ _ _ i.nx.nx.nx
      · rw [if_neg k]
        by_cases k : isW T n (nxT T n (nxT T n p)) 8 = true
        · rw [if_pos k]; exact u2 _ _ _ i.nx.nx.nx
        · rw [if_neg k]; exact .f i.nx.nx (by decide)
    · rw [if_neg y]; exact .f i.nx y
theorem gd_S4 {r tg q : Nat} (i : In_ T n a q) : Gd_ T n a (lnS4 T n B N r tg (csX T n N true 3 q)) := by
  have j := cs_in (N := N) (no := true) 3 q i
  generalize csX T n N true 3 q = x at *
  unfold lnS4 lnS5
  by_cases z : x.1 = 0
  · rw [if_pos z]
    by_cases w : faW T n x.2.1 1 = 0
    · rw [if_pos w]
      by_cases m : faM T n N (nxT T n x.2.1) = 0
      · rw [if_pos m]
        by_cases e : lkV N (wdV T n (nxT T n x.2.1)) = tg
        · rw [if_pos e]; exact .f j.nx (by decide)
        · rw [if_neg e]; exact .e j.nx.nx
      · rw [if_neg m]; exact .f j.nx m
    · rw [if_neg w]; exact .f j w
  · rw [if_neg z]; exact .f j z
theorem gd_S (i : In_ T n a p) : Gd_ T n a (lnS T n B N p) := by
  unfold lnS
  by_cases z : B 4 0 = 6
  · rw [if_pos z]; exact .f i (by decide)
  · rw [if_neg z]
    by_cases y : faR T n N (nxT T n p) = 0
    · rw [if_pos y]
      unfold lnS1
      by_cases w : faW T n (nxT T n (nxT T n p)) 16 = 0
      · rw [if_pos w]
        unfold lnS2
        by_cases m : faM T n N (nxT T n (nxT T n (nxT T n p))) = 0
        · rw [if_pos m]
          unfold lnS3
          by_cases o : faW T n (nxT T n (nxT T n (nxT T n (nxT T n p)))) 4 = 0
          · rw [if_pos o]; exact gd_S4 i.nx.nx.nx.nx.nx
          · rw [if_neg o]; exact .f i.nx.nx.nx.nx o
        · rw [if_neg m]; exact .f i.nx.nx.nx m
      · rw [if_neg w]; exact .f i.nx.nx w
    · rw [if_neg y]; exact .f i.nx y
theorem gd_A (i : In_ T n a p) : Gd_ T n a (lnA T n B N p) := by
  unfold lnA
  by_cases k : isW T n p 6 = true
  · rw [if_pos k]; exact gd_M i
  · rw [if_neg k]
    by_cases k : isW T n p 13 = true
    · rw [if_pos k]; exact gd_R i
    · rw [if_neg k]
      by_cases k : isW T n p 2 = true
      · rw [if_pos k]; exact gd_F i
      · rw [if_neg k]
        by_cases k : isW T n p 14 = true
        · rw [if_pos k]; exact gd_U i
        · rw [if_neg k]
          by_cases k : isW T n p 15 = true
          · rw [if_pos k]; exact gd_S i
          · rw [if_neg k]; exact .f i (by decide)
end
theorem tkA_1 {T : Nat → Int32} {n q : Nat} (k : tkK T n q = 1) : tkA T n q = q + 1 := by
  unfold tkK at k
  unfold tkA
  by_cases a : n ≤ q
  · rw [if_pos a] at k; exact absurd k (by decide)
  · rw [if_neg a] at k ⊢
    by_cases b : T q = nI 59
    · rw [if_pos b]
    · rw [if_neg b] at k
      by_cases c : tkZ T n q - q < 1
      · rw [if_pos c] at k; exact absurd k (by decide)
      · rw [if_neg c] at k
        by_cases d : 8 < tkZ T n q - q
        · rw [if_pos d] at k; exact absurd k (by decide)
        · rw [if_neg d] at k; exact absurd k (by decide)
/-- the class's lines -/
theorem line_c {h : AH} {T : Nat → Int32} {n p b : Nat} {B : BK} {N : NmL} {k : Int32 → AH → Option (Int32 × AH)} (c : CfC h T n) (t : CtC h T n p) (d : DrC h b B N) : ∃ w h', (BN (X6_spells_f 58 6 h) fun v9 h8 => if v9 = 0 then (G (xc h8 58 = 6) <| BN (X6_spells_f 58 13 h8) fun v12 h11 => if v12 = 0 then (G (xc h11 58 = 6) <| BN (X6_spells_f 58 2 h11) fun v15 h14 => if v15 = 0 then (G (xc h14 58 = 6) <| BN (X6_spells_f 58 14 h14) fun v18 h17 => if v18 = 0 then (G (xc h17 58 = 6) <| BN (X6_spells_f 58 15 h17) fun v21 h20 => if v21 = 0 then (G (xc h20 58 = 6) <| BN (X6_flawed_f 58 (nI 1) h20) fun v24 h23 => k v24 h23) else (G (xc h20 58 = 6) <| BN (X6_readSend_f 58 h20) fun v27 h26 => k v27 h26)) else (G (xc h17 58 = 6) <| BN (X6_readRule_f 58 h17) fun v30 h29 => k v30 h29)) else (G (xc h14 58 = 6) <| BN (X6_readFact_f 58 h14) fun v33 h32 => k v33 h32)) else (G (xc h11 58 = 6) <| BN (X6_readRow_f 58 h11) fun v36 h35 => k v36 h35)) else (G (xc h8 58 = 6) <| BN (X6_readMachine_f 58 h8) fun v39 h38 => k v39 h38)) = k w h' ∧ LnO h h' T n b w (lnA T n B N p) ∧ ∀ v, J9 v h → w ≠ nI 0 → J9 v h' := by
  have g := c.g.c58
  unfold lnA
  rw [spells_c c t (by decide), BN_ok, ifB]
  by_cases k1 : isW T n p 6 = true
  · obtain ⟨w, h1, e1, o1⟩ := machine_c c t d
    rw [if_pos k1, if_pos k1, G_t g, e1, BN_ok]; exact ⟨_, _, rfl, o1, fun v j z => x9_mach j _ _ e1 z⟩
  · rw [if_neg k1, if_neg k1, G_t g, spells_c c t (by decide), BN_ok, ifB]
    by_cases k2 : isW T n p 13 = true
    · obtain ⟨w, h1, e1, o1⟩ := row_c c t d
      rw [if_pos k2, if_pos k2, G_t g, e1, BN_ok]; exact ⟨_, _, rfl, o1, fun v j z => x9_row j _ _ e1 z⟩
    · rw [if_neg k2, if_neg k2, G_t g, spells_c c t (by decide), BN_ok, ifB]
      by_cases k3 : isW T n p 2 = true
      · obtain ⟨w, h1, e1, o1⟩ := fact_c c t d
        rw [if_pos k3, if_pos k3, G_t g, e1, BN_ok]; exact ⟨_, _, rfl, o1, fun v j z => x9_fact j _ _ e1 z⟩
      · rw [if_neg k3, if_neg k3, G_t g, spells_c c t (by decide), BN_ok, ifB]
        by_cases k4 : isW T n p 14 = true
        · obtain ⟨w, h1, e1, o1⟩ := rule_c c t d
          rw [if_pos k4, if_pos k4, G_t g, e1, BN_ok]; exact ⟨_, _, rfl, o1, fun v j z => x9_rule j _ _ e1 z⟩
        · rw [if_neg k4, if_neg k4, G_t g, spells_c c t (by decide), BN_ok, ifB]
          by_cases k5 : isW T n p 15 = true
          · obtain ⟨w, h1, e1, o1⟩ := send_c c t d
            rw [if_pos k5, if_pos k5, G_t g, e1, BN_ok]; exact ⟨_, _, rfl, o1, fun v j z => x9_send j _ _ e1 z⟩
          · obtain ⟨h1, e1, o1⟩ := flaw_o (b := b) (B := B) (N := N) (k := 1) Fz.rf c t (by decide)
            rw [if_neg k5, if_neg k5, G_t g, e1, BN_ok]; exact ⟨_, _, rfl, o1, fun v j z => absurd rfl z⟩
theorem lines_c {T : Nat → Int32} {n b : Nat} : ∀ f i h a B N m, n - a < f → f < m → i ≤ a → a ≤ n → CfC h T n → xI h 58 7 = nI a → DrC h b B N → ∃ w h', X6_read_B50 m 58 (nI i) h = some (w, h') ∧ PrO h h' T n b N w (prs T n f (tkP T n a) B N) ∧ ∀ v, J9 v h → w ≠ nI 0 → J9 v h' := by
  intro f
  induction f with
  | zero => intro i h a B N m hf; exact absurd hf (Nat.not_lt_zero _)
  | succ f ih =>
    intro i h a B N m hf hm hi ha c c7 d
    have nx := c.x
    obtain ⟨m, rfl⟩ : ∃ g, m = g + 1 := ⟨m - 1, by omega⟩
    obtain ⟨h1, e1, F1, c1, t1⟩ := step_c c ha c7
    have G1 := F1.mo (fun a k => StA_Fl)
    have d1 := d.fl G1
    have j1 : ∀ v, J9 v h → J9 v h1 := fun v j => x9_step j _ _ e1 id
    have ip : In_ T n a (tkP T n a) := ⟨(tkP_b ha).1, (tkP_b ha).2.1⟩
    rw [X6_read_B50, G_t c.g.c58, c.e, if_neg (by rw [nI_tI (by omega) (by omega)]; omega), G_t c.g.c58, e1, BN_ok, G_t c1.g.c58, spells_c c1 t1 (by decide), BN_ok, ifB]
    generalize tkP T n a = p at *
    unfold prs
    have Gd : Fz (DrA b) h h1 := G1.mo (fun x k q => .inl (.inl q))
    by_cases k : isW T n p 12 = true
    · obtain ⟨w, h2, e2, F2, c2, t2, x2, y2⟩ := promise_c c1 t1 d1
      have bw : bz w := by
        by_cases z : (lnP T n B N p).1 = 0
        · rw [(x2 z).1]; decide
        · rw [(y2 z).1]; decide
      rw [if_pos k, if_pos k]
      unfold X6_read_B71
      rw [G_t c1.g.c58, e2, BN_ok, G_t bw]
      exact ⟨_, _, rfl, ⟨Gd.tr F2, c2, t2, x2, y2⟩, fun v j z => x9_prom c1 t1 d1 (j1 v j) _ _ e2 z⟩
    · obtain ⟨w, h2, e2, ⟨F2, c2, t2, x2, y2⟩, j2⟩ := line_c (k := fun v g => X6_read_B173 (X6_read_B50 m) 58 (nI i) v g) c1 t1 d1
      rw [if_neg k, if_neg k, G_t c1.g.c58, e2]
      obtain ⟨g1, g2⟩ := gd_A (B := B) (N := N) ip
      generalize lnA T n B N p = x at *
      unfold X6_read_B173
      by_cases z : x.1 = 0
      · obtain ⟨w2, d2⟩ := x2 z
        have ka := tkA_1 (g2 z)
        have hk := (tkA_b (T := T) g1.2).2
        have g11 := g1.1
        obtain ⟨w3, h3, e3, ⟨F3, c3, t3, x3, y3⟩, j3⟩ := ih (i + 1) h2 (tkA T n x.2.1) x.2.2.1 x.2.2.2 m (by omega) (by omega) (by omega) hk c2 t2.f d2
        rw [w2, if_neg (by decide), nI_add, LT_e, e3, if_pos z]
        exact ⟨_, _, rfl, ⟨(Gd.tr F2).tr F3, c3, t3, x3, y3⟩, fun v j q => j3 v (j2 v (j1 v j) (by rw [w2]; decide)) q⟩
      · obtain ⟨w2, y2'⟩ := y2 z
        rw [w2, if_pos (by decide), if_neg z]
        exact ⟨_, _, rfl, ⟨Gd.tr F2, c2, t2, fun g => absurd g z, fun _ => ⟨rfl, y2'⟩⟩, fun v j q => absurd rfl q⟩
