def Fr (A : Nat → Prop) (h h' : AH) : Prop := xn h' = xn h ∧ xs h' = xs h ∧ xc h' = xc h ∧ xz h' = xz h ∧ xR h' = xR h ∧ ∀ a, ¬ A a → xI h' a = xI h a ∧ xL h' a = xL h a
theorem Fr.rf {A : Nat → Prop} {h : AH} : Fr A h h := ⟨rfl, rfl, rfl, rfl, rfl, fun _ _ => ⟨rfl, rfl⟩⟩
theorem Fr.tr {A : Nat → Prop} {h h1 h2 : AH} (p : Fr A h h1) (q : Fr A h1 h2) : Fr A h h2 := ⟨q.1.trans p.1, q.2.1.trans p.2.1, q.2.2.1.trans p.2.2.1, q.2.2.2.1.trans p.2.2.2.1, q.2.2.2.2.1.trans p.2.2.2.2.1, fun a ha => ⟨(q.2.2.2.2.2 a ha).1.trans (p.2.2.2.2.2 a ha).1, (q.2.2.2.2.2 a ha).2.trans (p.2.2.2.2.2 a ha).2⟩⟩
theorem Fr.mo {A A' : Nat → Prop} {h h' : AH} (p : Fr A h h') (s : ∀ a, A a → A' a) : Fr A' h h' := ⟨p.1, p.2.1, p.2.2.1, p.2.2.2.1, p.2.2.2.2.1, fun a ha => p.2.2.2.2.2 a (fun q => ha (s a q))⟩
theorem Fr.i {A : Nat → Prop} {h : AH} {a k : Nat} {v : Int32} (m : A a) : Fr A h (pI h a k v) := ⟨rfl, rfl, rfl, rfl, rfl, fun b hb => ⟨by funext j; rw [xI_pI, if_neg (fun q : b = a ∧ j = k => hb (q.1 ▸ m))], rfl⟩⟩
theorem Fr.l {A : Nat → Prop} {h : AH} {a k : Nat} {v : Int64} (m : A a) : Fr A h (pL h a k v) := ⟨rfl, rfl, rfl, rfl, rfl, fun b hb => ⟨rfl, by funext j; rw [xL_pL, if_neg (fun q : b = a ∧ j = k => hb (q.1 ▸ m))]⟩⟩
theorem Fr.n {A : Nat → Prop} {h h' : AH} (p : Fr A h h') : xn h' = xn h := p.1
theorem Fr.s {A : Nat → Prop} {h h' : AH} (p : Fr A h h') : xs h' = xs h := p.2.1
theorem Fr.c {A : Nat → Prop} {h h' : AH} (p : Fr A h h') (a : Nat) : xc h' a = xc h a := congrFun p.2.2.1 a
theorem Fr.z {A : Nat → Prop} {h h' : AH} (p : Fr A h h') (a : Nat) : xz h' a = xz h a := congrFun p.2.2.2.1 a
theorem Fr.r {A : Nat → Prop} {h h' : AH} (p : Fr A h h') (a k : Nat) : xR h' a k = xR h a k := congrFun (congrFun p.2.2.2.2.1 a) k
theorem Fr.I {A : Nat → Prop} {h h' : AH} (p : Fr A h h') {a : Nat} (k : Nat) (ha : ¬ A a) : xI h' a k = xI h a k := congrFun (p.2.2.2.2.2 a ha).1 k
theorem Fr.L {A : Nat → Prop} {h h' : AH} (p : Fr A h h') {a : Nat} (k : Nat) (ha : ¬ A a) : xL h' a k = xL h a k := congrFun (p.2.2.2.2.2 a ha).2 k
/-- loops by a measure -/
theorem loopM {σ ρ : Type} {F : Nat → σ → Option ρ} (μ : σ → Nat) (I : σ → Prop) (Q : Option ρ → Prop) (st : ∀ n s, I s → (∃ s', I s' ∧ μ s' < μ s ∧ F (n + 1) s = F n s') ∨ Q (F (n + 1) s)) : ∀ n s, μ s < n → I s → Q (F n s) := by
  intro n
  induction n with
  | zero => intro s h; exact absurd h (Nat.not_lt_zero _)
  | succ n ih =>
    intro s hm hi
    rcases st n s hi with ⟨s', i', m', e⟩ | q
    · rw [e]; exact ih s' (by omega) i'
    · exact q
/-- loops that count up; the state is a heap -/
theorem loopH {ρ : Type} {F : Nat → Nat → AH → Option ρ} (c : Nat) (I : Nat → AH → Prop) (Q : Option ρ → Prop) (st : ∀ n k h, k < c → I k h → (∃ h', I (k + 1) h' ∧ F (n + 1) k h = F n (k + 1) h') ∨ Q (F (n + 1) k h)) (ex : ∀ n h, I c h → Q (F (n + 1) c h)) {n k : Nat} {h : AH} (hk : k ≤ c) (hn : c - k < n) (i : I k h) : Q (F n k h) := by
  induction n generalizing k h with
  | zero => exact absurd hn (Nat.not_lt_zero _)
  | succ n ih =>
    rcases Nat.lt_or_ge k c with q | q
    · rcases st n k h q i with ⟨h', i', e⟩ | q'
      · rw [e]; exact ih (by omega) (by omega) i'
      · exact q'
    · have : k = c := by omega
      subst this
      exact ex n h i
/-- .. and a value -/
theorem loopV {α ρ : Type} {F : Nat → Nat → α → AH → Option ρ} (c : Nat) (I : Nat → α → AH → Prop) (Q : Option ρ → Prop) (st : ∀ n k v h, k < c → I k v h → (∃ v' h', I (k + 1) v' h' ∧ F (n + 1) k v h = F n (k + 1) v' h') ∨ Q (F (n + 1) k v h)) (ex : ∀ n v h, I c v h → Q (F (n + 1) c v h)) {n k : Nat} {v : α} {h : AH} (hk : k ≤ c) (hn : c - k < n) (i : I k v h) : Q (F n k v h) := by
  induction n generalizing k v h with
  | zero => exact absurd hn (Nat.not_lt_zero _)
  | succ n ih =>
    rcases Nat.lt_or_ge k c with q | q
    · rcases st n k v h q i with ⟨v', h', i', e⟩ | q'
      · rw [e]; exact ih (by omega) (by omega) i'
      · exact q'
    · have : k = c := by omega
      subst this
      exact ex n v h i
theorem FU_gt {n : Nat} (h : n < 4000000) : n < FU := h
/-- loops that count up to their end -/
theorem loopE {ρ : Type} {F : Nat → Nat → AH → Option ρ} {E : AH → Option ρ} (c : Nat) (I : Nat → AH → Prop) {k : Nat} {h : AH} (hk : k ≤ c) (hc : c < 4000000) (i : I k h) (st : ∀ n k h, k < c → I k h → ∃ h', I (k + 1) h' ∧ F (n + 1) k h = F n (k + 1) h') (ex : ∀ n h, I c h → F (n + 1) c h = E h) : ∃ h', I c h' ∧ F FU k h = E h' := by
  have := loopH (F := F) c I (fun o => ∃ h', I c h' ∧ o = E h') (fun n k h hk i => Or.inl (st n k h hk i)) (fun n h i => ⟨h, i, ex n h i⟩) hk (n := FU) (FU_gt (by omega)) i
  exact this
theorem loopEV {α ρ : Type} {F : Nat → Nat → α → AH → Option ρ} {E : α → AH → Option ρ} (c : Nat) (I : Nat → α → AH → Prop) {k : Nat} {v : α} {h : AH} (hk : k ≤ c) (hc : c < 4000000) (i : I k v h) (st : ∀ n k v h, k < c → I k v h → ∃ v' h', I (k + 1) v' h' ∧ F (n + 1) k v h = F n (k + 1) v' h') (ex : ∀ n v h, I c v h → F (n + 1) c v h = E v h) : ∃ v' h', I c v' h' ∧ F FU k v h = E v' h' := by
  have := loopV (F := F) c I (fun o => ∃ v' h', I c v' h' ∧ o = E v' h') (fun n k v h hk i => Or.inl (st n k v h hk i)) (fun n v h i => ⟨v, h, i, ex n v h i⟩) hk (n := FU) (FU_gt (by omega)) i
  exact this
