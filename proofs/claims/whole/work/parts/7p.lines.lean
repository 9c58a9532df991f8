/-- THE PARSER, plainly. One place of the book changed -/
def upB (B : BK) (k i v : Nat) : BK := fun x j => if x = k ∧ j = i then v else B x j
theorem upB_s {B : BK} {k i v : Nat} : upB B k i v k i = v := if_pos ⟨rfl, rfl⟩
theorem upB_n {B : BK} {k i v x j : Nat} (h : ¬ (x = k ∧ j = i)) : upB B k i v x j = B x j := if_neg h
/-- a clause written -/
def clB (B : BK) (c row pl tg now : Nat) (l : CsL) : BK := fun k i => if k = 10 ∧ i = c then row else if k = 11 ∧ i = c then pl else if k = 12 ∧ i = c then tg else if k = 13 ∧ i = c then now else if k = 14 ∧ i = c then l.length else if k = 20 + c then (csG l i).1 else if k = 40 + c then (if (csG l i).2 = true then 1 else 0) else B k i
/-- a promise written -/
def prB (B : BK) (x y : PlL) : BK := fun k i => if k = 60 ∧ i = 0 then x.length else if k = 61 ∧ i = 0 then y.length else if k = 62 then (plG x i).1 else if k = 63 then (plG x i).2 else if k = 64 then (plG y i).1 else if k = 65 then (plG y i).2 else B k i
/-- a line: the fault (0: none), where it stands, the book, the names -/
abbrev LnR : Type := Nat × Nat × BK × NmL
def lnM (T : Nat → Int32) (n : Nat) (B : BK) (N : NmL) (p : Nat) : LnR :=
  if B 0 0 = 4 then (5, p, B, N) else
  if faN T n N (nxT T n p) = 0 then (faE T n (nxT T n (nxT T n p)), nxT T n (nxT T n p), upB B 0 0 (B 0 0 + 1), N ++ [(wdV T n (nxT T n p), B 0 0)])
  else (faN T n N (nxT T n p), nxT T n p, B, N)
/-- where a word that may be left out ends -/
def opT (T : Nat → Int32) (n q s : Nat) : Nat := if isW T n q s = true then nxT T n q else q
def lnR (T : Nat → Int32) (n : Nat) (B : BK) (N : NmL) (p : Nat) : LnR :=
  if B 1 0 = 10 then (5, p, B, N) else
  if faN T n N (nxT T n p) = 0 then (faE T n (opT T n (nxT T n (nxT T n p)) 5), opT T n (nxT T n (nxT T n p)) 5, upB (upB B 6 0 (if isW T n (nxT T n (nxT T n p)) 5 = true then B 6 0 ||| 2 ^ B 1 0 else B 6 0)) 1 0 (B 1 0 + 1), N ++ [(wdV T n (nxT T n p), 4 + B 1 0)])
  else (faN T n N (nxT T n p), nxT T n p, B, N)
def faB (B : BK) (r m : Nat) (k : Bool) : BK := upB (upB (upB (upB (upB B 7 (B 2 0) r) 8 (B 2 0) m) 9 (B 2 0) (if k = true then B 5 0 + 1 else 0)) 5 0 (if k = true then B 5 0 + 1 else B 5 0)) 2 0 (B 2 0 + 1)
def lnF3 (T : Nat → Int32) (n : Nat) (B : BK) (N : NmL) (r q : Nat) : LnR :=
  if faM T n N q = 0 then (faE T n (opT T n (nxT T n q) 7), opT T n (nxT T n q) 7, faB B r (lkV N (wdV T n q)) (isW T n (nxT T n q) 7), N) else (faM T n N q, q, B, N)
def lnF2 (T : Nat → Int32) (n : Nat) (B : BK) (N : NmL) (r q : Nat) : LnR :=
  if faW T n q 1 = 0 then lnF3 T n B N r (nxT T n q) else (faW T n q 1, q, B, N)
def lnF1 (T : Nat → Int32) (n : Nat) (B : BK) (N : NmL) (q : Nat) : LnR :=
  if faR T n N q = 0 then lnF2 T n B N (lkV N (wdV T n q) - 4) (nxT T n q) else (faR T n N q, q, B, N)
def lnF (T : Nat → Int32) (n : Nat) (B : BK) (N : NmL) (p : Nat) : LnR := if B 2 0 = 10 then (5, p, B, N) else lnF1 T n B N (nxT T n p)
/-- a rule: the place, from the token behind the cases on -/
def lnU4 (T : Nat → Int32) (n : Nat) (B : BK) (N : NmL) (r now : Nat) (l : CsL) (q : Nat) : LnR :=
  if isW T n q 1 = true then
    if faM T n N (nxT T n q) = 0 then (faE T n (nxT T n (nxT T n q)), nxT T n (nxT T n q), upB (clB B (B 3 0) r (lkV N (wdV T n (nxT T n q)) + 1) 0 now l) 3 0 (B 3 0 + 1), N)
    else (faM T n N (nxT T n q), nxT T n q, B, N)
  else (faE T n q, q, upB (clB B (B 3 0) r 0 0 now l) 3 0 (B 3 0 + 1), N)
def lnU3 (T : Nat → Int32) (n : Nat) (B : BK) (N : NmL) (r now : Nat) (x : Nat × Nat × CsL) : LnR := if x.1 = 0 then lnU4 T n B N r now x.2.2 x.2.1 else (x.1, x.2.1, B, N)
def lnU2 (T : Nat → Int32) (n : Nat) (B : BK) (N : NmL) (r : Nat) (now : Bool) (q : Nat) : LnR :=
  if faW T n q 4 = 0 then lnU3 T n B N r (if now = true then 1 else 0) (csX T n N (!now) 3 (nxT T n q)) else (faW T n q 4, q, B, N)
def lnU1 (T : Nat → Int32) (n : Nat) (B : BK) (N : NmL) (r q : Nat) : LnR :=
  if isW T n q 10 = true then lnU2 T n B N r true (nxT T n q) else if isW T n q 8 = true then lnU2 T n B N r false (nxT T n q) else (1, q, B, N)
def lnU (T : Nat → Int32) (n : Nat) (B : BK) (N : NmL) (p : Nat) : LnR :=
  if B 3 0 = 10 then (5, p, B, N) else if faR T n N (nxT T n p) = 0 then lnU1 T n B N (lkV N (wdV T n (nxT T n p)) - 4) (nxT T n (nxT T n p)) else (faR T n N (nxT T n p), nxT T n p, B, N)
/-- a send: from the token behind the cases on -/
def lnS5 (T : Nat → Int32) (n : Nat) (B : BK) (N : NmL) (r tg : Nat) (l : CsL) (q : Nat) : LnR :=
  if faM T n N q = 0 then
    if lkV N (wdV T n q) = tg then (3, q, B, N)
    else (faE T n (nxT T n q), nxT T n q, upB (clB B (10 + B 4 0) r (lkV N (wdV T n q) + 1) tg 0 l) 4 0 (B 4 0 + 1), N)
  else (faM T n N q, q, B, N)
def lnS4 (T : Nat → Int32) (n : Nat) (B : BK) (N : NmL) (r tg : Nat) (x : Nat × Nat × CsL) : LnR :=
  if x.1 = 0 then (if faW T n x.2.1 1 = 0 then lnS5 T n B N r tg x.2.2 (nxT T n x.2.1) else (faW T n x.2.1 1, x.2.1, B, N)) else (x.1, x.2.1, B, N)
def lnS3 (T : Nat → Int32) (n : Nat) (B : BK) (N : NmL) (r tg q : Nat) : LnR := if faW T n q 4 = 0 then lnS4 T n B N r tg (csX T n N true 3 (nxT T n q)) else (faW T n q 4, q, B, N)
def lnS2 (T : Nat → Int32) (n : Nat) (B : BK) (N : NmL) (r q : Nat) : LnR := if faM T n N q = 0 then lnS3 T n B N r (lkV N (wdV T n q)) (nxT T n q) else (faM T n N q, q, B, N)
def lnS1 (T : Nat → Int32) (n : Nat) (B : BK) (N : NmL) (r q : Nat) : LnR := if faW T n q 16 = 0 then lnS2 T n B N r (nxT T n q) else (faW T n q 16, q, B, N)
def lnS (T : Nat → Int32) (n : Nat) (B : BK) (N : NmL) (p : Nat) : LnR :=
  if B 4 0 = 6 then (5, p, B, N) else if faR T n N (nxT T n p) = 0 then lnS1 T n B N (lkV N (wdV T n (nxT T n p)) - 4) (nxT T n (nxT T n p)) else (faR T n N (nxT T n p), nxT T n p, B, N)
/-- the promise -/
def lnP2 (T : Nat → Int32) (n : Nat) (B : BK) (l : PlL) (y : Nat × Nat × PlL) : Nat × Nat × BK :=
  if y.1 = 0 then (if tkK T n y.2.1 = 0 then (0, y.2.1, prB B l y.2.2) else (1, y.2.1, B)) else (y.1, y.2.1, B)
def lnP1 (T : Nat → Int32) (n : Nat) (B : BK) (N : NmL) (x : Nat × Nat × PlL) : Nat × Nat × BK :=
  if x.1 = 0 then (if faW T n x.2.1 3 = 0 then lnP2 T n B x.2.2 (plX T n N 11 3 (nxT T n x.2.1)) else (faW T n x.2.1 3, x.2.1, B)) else (x.1, x.2.1, B)
def lnP (T : Nat → Int32) (n : Nat) (B : BK) (N : NmL) (p : Nat) : Nat × Nat × BK := lnP1 T n B N (plX T n N 0 3 (nxT T n p))
def lnA (T : Nat → Int32) (n : Nat) (B : BK) (N : NmL) (p : Nat) : LnR :=
  if isW T n p 6 = true then lnM T n B N p else if isW T n p 13 = true then lnR T n B N p else if isW T n p 2 = true then lnF T n B N p else if isW T n p 14 = true then lnU T n B N p else if isW T n p 15 = true then lnS T n B N p else (1, p, B, N)
/-- all lines from the token p on: the fault (0: none), where, the book -/
def prs (T : Nat → Int32) (n : Nat) : Nat → Nat → BK → NmL → Nat × Nat × BK
  | 0, p, B, _ => (1, p, B)
  | f + 1, p, B, N => if isW T n p 12 = true then lnP T n B N p else if (lnA T n B N p).1 = 0 then prs T n f (nxT T n (lnA T n B N p).2.1) (lnA T n B N p).2.2.1 (lnA T n B N p).2.2.2 else ((lnA T n B N p).1, (lnA T n B N p).2.1, B)
/-- clauses stand where their places of the book stand -/
theorem IsCl.cg {h : AH} {a c : Nat} {B B' : BK} (e : ∀ k, k = 10 ∨ k = 11 ∨ k = 12 ∨ k = 13 ∨ k = 14 → B' k c = B k c) (e2 : ∀ i, B' (20 + c) i = B (20 + c) i) (e4 : ∀ i, B' (40 + c) i = B (40 + c) i) (q : IsCl h a B c) : IsCl h a B' c := by
  have f2 : B' (20 + c) = B (20 + c) := funext e2
  have f4 : B' (40 + c) = B (40 + c) := funext e4
  refine ⟨q.s, by rw [e _ (by omega)]; exact q.n, by rw [e _ (by omega)]; exact q.row, by rw [e _ (by omega)]; exact q.pl, fun z => by rw [e _ (by omega)]; exact q.now z, fun z => by rw [e _ (by omega)]; exact q.tg z, ?_, ?_, ?_, ?_⟩
  · rw [e _ (by omega), f2]; exact q.cr
  · rw [e _ (by omega), f4]; exact q.cn
  · unfold askB; rw [e _ (by omega), f2, f4]; exact q.ask
  · unfold notB; rw [e _ (by omega), f2, f4]; exact q.nt
theorem WC.cg {c : Nat} {B B' : BK} (m : B 0 0 ≤ B' 0 0) (r : B 1 0 ≤ B' 1 0) (e : ∀ k, k = 10 ∨ k = 11 ∨ k = 14 → B' k c = B k c) (e2 : ∀ i, B' (20 + c) i = B (20 + c) i) (e4 : ∀ i, B' (40 + c) i = B (40 + c) i) (q : WC B c) : WC B' c := by
  refine ⟨by rw [e _ (by omega)]; exact Nat.lt_of_lt_of_le q.row r, by rw [e _ (by omega)]; exact Nat.le_trans q.pl m, by rw [e _ (by omega)]; exact q.n, fun i hi => ?_, fun i hi => ?_, by rw [e _ (by omega)]; exact q.p1⟩
  · rw [e _ (by omega)] at hi; rw [e2]; exact Nat.lt_of_lt_of_le (q.cr i hi) r
  · rw [e _ (by omega)] at hi; rw [e4]; exact q.cn i hi
