/-- the falls that stay -/
def cutL (p : PR) : Nat → List Nat → List Nat
  | 0, l => l
  | i + 1, l => cutL p i (if outB p (flOf (l.eraseIdx i)) = 2 then l.eraseIdx i else l)
theorem cutL_sub {p : PR} : ∀ i (l : List Nat) d, d ∈ cutL p i l → d ∈ l := by
  intro i
  induction i with
  | zero => exact fun l d h => h
  | succ i ih =>
    intro l d h
    have := ih _ _ h
    split at this
    · exact List.mem_of_mem_eraseIdx this
    · exact this
theorem cutL_len {p : PR} : ∀ i (l : List Nat), (cutL p i l).length ≤ l.length := by
  intro i
  induction i with
  | zero => exact fun l => Nat.le_refl _
  | succ i ih =>
    intro l
    refine Nat.le_trans (ih _) ?_
    split
    · exact List.length_eraseIdx_le ..
    · exact Nat.le_refl _
theorem sub1 {i : Nat} : nI i + (-1) = nI i - nI 1 := by rw [Int32.sub_eq_add_neg]; rfl
def CuA : Nat → Nat → Prop := fun a _ => a = 120 ∨ a = 121 ∨ a = 124 ∨ a = 125 ∨ (152 ≤ a ∧ a ≤ 154) ∨ (174 ≤ a ∧ a ≤ 179) ∨ (182 ≤ a ∧ a ≤ 182 + 5)
theorem cut_c {b : Nat} {p : PR} (hp : 1 ≤ pl p) (hx : pl p ≤ 6) : ∀ i (l : List Nat) n (h : AH), i ≤ l.length → i < n → SG h → IsW h 62 b p → IsCB h b p.1 → IsN h 120 6 l → (∀ d, d ∈ l → OKf d) → ∃ h2, X11_cut_B44 n 1 (nI i - nI 1) h = X11_cut_B99 1 h2 ∧ Fz CuA h h2 ∧ IsN h2 120 6 (cutL p i l) := by
  intro i
  induction i with
  | zero =>
    intro l n h hi hn g w q nu o
    obtain ⟨n, rfl⟩ : ∃ k, n = k + 1 := ⟨n - 1, by omega⟩
    refine ⟨h, ?_, Fz.rf, nu⟩
    rw [X11_cut_B44, if_pos (by decide)]
  | succ i ih =>
    intro l n h hi hn g w q nu o
    obtain ⟨n, rfl⟩ : ∃ k, n = k + 1 := ⟨n - 1, by omega⟩
    have l6 := nu.n
    have kk : NuS h 124 6 := ⟨g.c124, g.r124_0, g.c125, g.z125, by decide⟩
    obtain ⟨h1, e1, F1, n1⟩ := take_n kk nu l6 (by decide)
    have g1 := g.fr F1
    have Fa : Fz CuA h h1 := F1.q.f.mo (fun a k q => by unfold CuA; omega)
    obtain ⟨h2, e2, F2, n2⟩ := dropAt_ok (i := i) n1 (by omega)
    have g2 := g1.fr F2
    have Fb : Fz CuA h h2 := Fa.tr (F2.q.f.mo (fun a k q => by unfold CuA; omega))
    have w2 := w.fz Fb rfl (fun k c => by unfold CuA at c; omega)
    have q2 := q.fz Fb (fun a k c => by unfold CuA at c; omega)
    have o2 : ∀ d, d ∈ l.eraseIdx i → OKf d := fun d hd => o d (List.mem_of_mem_eraseIdx hd)
    obtain ⟨h3, e3, F3⟩ := isBroken_c g2 w2 q2 hp hx n2 o2 (.inl (by decide))
    have g3 := g2.fq F3
    have Fc : Fz CuA h h3 := Fb.tr (F3.f.mo (fun a k q => by unfold CuA; omega))
    have F23 : Fz (fun a _ => (152 ≤ a ∧ a ≤ 154) ∨ (174 ≤ a ∧ a ≤ 179) ∨ (182 ≤ a ∧ a ≤ 182 + 5)) h2 h3 := F3.f
    have n3 : IsN h3 124 6 (l.eraseIdx i) := n2.fz F23 (by decide) (by omega) (fun k => by omega)
    have F13 : Fz (fun a _ => a = 124 ∨ a = 125 ∨ (152 ≤ a ∧ a ≤ 154) ∨ (174 ≤ a ∧ a ≤ 179) ∨ (182 ≤ a ∧ a ≤ 182 + 5)) h h3 := ((F1.q.f.mo (fun a k q => by omega)).tr (F2.q.f.mo (fun a k q => by omega))).tr (F3.f.mo (fun a k q => by omega))
    have nu3 : IsN h3 120 6 l := nu.fz F13 (by decide) (by omega) (fun k => by omega)
    have s1 : nI (i + 1) - nI 1 = nI i := by rw [pk_sub (by omega)]; rfl
    have run : X11_cut_B44 (n + 1) 1 (nI (i + 1) - nI 1) h = if bI (outB p (flOf (l.eraseIdx i)) == 2) = 0 then X11_cut_B93 (X11_cut_B44 n) 1 (nI i) h3 else G (xc h3 1 = 11) (G (xc h3 120 = 4) (BN (X4_take_f 120 124 h3) fun _ h12 => X11_cut_B93 (X11_cut_B44 n) 1 (nI i) h12)) := by
      rw [s1, X11_cut_B44, if_neg (nI_pos (by omega)), G_t g.c1, g.r1_5, G_t g.c124, g.r1_3, e1, BN_ok, G_t g1.c1, g1.r1_5, G_t g1.c124, e2, BN_ok, G_t g2.c1, g2.r1_1, g2.r1_5, e3, BN_ok, g3.r1_3, g3.r1_5]
    by_cases eb : outB p (flOf (l.eraseIdx i)) = 2
    · have ks : NuS h3 120 6 := nu3.nus
      have le := n3.n
      obtain ⟨h4, e4, F4, n4⟩ := take_n ks n3 le (by decide)
      have Fd : Fz CuA h h4 := Fc.tr (F4.q.f.mo (fun a k q => by unfold CuA; omega))
      obtain ⟨h5, e5, F5, n5⟩ := ih (l.eraseIdx i) n h4 (by rw [List.length_eraseIdx_of_lt (by omega)]; omega) (by omega) (g3.fr F4) (w.fz Fd rfl (fun k c => by unfold CuA at c; omega)) (q.fz Fd (fun a k c => by unfold CuA at c; omega)) n4 o2
      refine ⟨h5, ?_, Fd.tr F5, ?_⟩
      · rw [run, eb, if_neg (by decide), G_t g3.c1, G_t g3.c120, e4, BN_ok]
        unfold X11_cut_B93
        rw [LT_e, sub1]; exact e5
      · rw [cutL, if_pos eb]; exact n5
    · obtain ⟨h5, e5, F5, n5⟩ := ih l n h3 (by omega) (by omega) g3 (w.fz Fc rfl (fun k c => by unfold CuA at c; omega)) (q.fz Fc (fun a k c => by unfold CuA at c; omega)) nu3 o
      have ef : (outB p (flOf (l.eraseIdx i)) == 2) = false := by simpa using eb
      refine ⟨h5, ?_, Fc.tr F5, ?_⟩
      · rw [run, ef, if_pos (by decide)]
        unfold X11_cut_B93
        rw [LT_e, sub1]; exact e5
      · rw [cutL, if_neg eb]; exact n5
