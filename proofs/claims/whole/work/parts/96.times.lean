/-! lead 1, class: some value stands v times -/
def tmL (l : List Int) (v : Int) : Prop := ∃ i, v - 1 ≤ i ∧ i < (l.length : Int) ∧ ga l i = ga l (i - v + 1)
theorem t_hasTimes {Q : ZQ} {σ : ZM} {g : Nat} {l : List Int} {v : Int} (og : SumO σ g) (hl : Lz σ g l) (hp : Pt l) (v0 : 2 ≤ v) (v1 : v ≤ 12) (q1 : tmL l v → Q (zi 1) σ) (q0 : ¬ tmL l v → Q (zi 0) σ) : WP m_Leads_hasTimes 0 [zr g, zi v, zu] [] σ (0, 0) Q := by
  have hl1 := hl.1
  have hlen := hp.len
  have h4 := hp.2.1
  have k4 : ∀ (e : Nat) (i : Int), v - 1 ≤ i → (i + e = (l.length : Int) ∨ (e = 0 ∧ (l.length : Int) ≤ i)) → (∀ y, v - 1 ≤ y → y < i → y < (l.length : Int) → ga l y ≠ ga l (y - v + 1)) → WP m_Leads_hasTimes 4 [zr g, zi v, zi i] [] σ (0, 0) Q := by
    intro e
    induction e with
    | zero =>
      intro i i1 hi hn
      refine r_Leads_hasTimes_4 ?_
      simp only [og.1, hl1, zrI, zrL, zrR, ne_eq, true_and, and_true, true_or, or_true, not_true_eq_false, not_false_eq_true, false_and, and_false, forall_const, true_implies, false_implies, implies_true, reduceCtorEq, Int.reduceEq, Int.reduceNe, Int.reduceLT, Int.reduceLE, Int.reduceNeg, Nat.reduceEqDiff, if_true, if_false, reduceIte, Int.reduceMul, Int.reduceAdd, Int.reduceSub]
      exact ⟨fun _ => q0 (fun ⟨y, y0, y1, w⟩ => hn y y0 (by omega) y1 w), fun c => by omega⟩
    | succ e ih =>
      intro i i1 hi hn
      refine r_Leads_hasTimes_4 ?_
      simp only [og.1, hl1, zrI, zrL, zrR, ne_eq, true_and, and_true, true_or, or_true, not_true_eq_false, not_false_eq_true, false_and, and_false, forall_const, true_implies, false_implies, implies_true, reduceCtorEq, Int.reduceEq, Int.reduceNe, Int.reduceLT, Int.reduceLE, Int.reduceNeg, Nat.reduceEqDiff, if_true, if_false, reduceIte, Int.reduceMul, Int.reduceAdd, Int.reduceSub]
      refine ⟨fun c => by omega, fun _ => t_Sum_at og hl ?_⟩
      simp only [og.1, zrI, zrL, zrR, ne_eq, true_and, and_true, true_or, or_true, not_true_eq_false, not_false_eq_true, false_and, and_false, forall_const, true_implies, false_implies, implies_true, reduceCtorEq, Int.reduceEq, Int.reduceNe, Int.reduceLT, Int.reduceLE, Int.reduceNeg, Nat.reduceEqDiff, if_true, if_false, reduceIte, Int.reduceMul, Int.reduceAdd, Int.reduceSub]
      refine ⟨by omega, by omega, t_Sum_at og hl ?_⟩
      simp only [zrI, zrL, zrR, ne_eq, true_and, and_true, true_or, or_true, not_true_eq_false, not_false_eq_true, false_and, and_false, forall_const, true_implies, false_implies, implies_true, reduceCtorEq, Int.reduceEq, Int.reduceNe, Int.reduceLT, Int.reduceLE, Int.reduceNeg, Nat.reduceEqDiff, if_true, if_false, reduceIte, Int.reduceMul, Int.reduceAdd, Int.reduceSub]
      refine ⟨fun c => ⟨by omega, ih (i + 1) (by omega) (by omega) (fun y y1 y2 y3 => ?_)⟩, fun c => q1 ⟨i, i1, by omega, c⟩⟩
      by_cases ey : y = i
      · rw [ey]; exact c
      · exact hn y y1 (by omega) y3
  refine r_Leads_hasTimes_0 ⟨by omega, ?_⟩
  exact k4 (l.length - (v - 1).toNat) (v - 1) (Int.le_refl _) (by omega) (fun y y1 y2 => by omega)
