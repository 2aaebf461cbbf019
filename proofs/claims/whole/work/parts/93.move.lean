/-! move, of the class: the first run, a SUM with its first parts shifted -/
/-- r parts at the front go down by one each -/
def fRun (l : List Int) (r : Int) : Prop := (min 1 (l.length : Int) ≤ r ∧ r ≤ (l.length : Int)) ∧ (∀ i, 1 ≤ i → i < r → ga l i = ga l (i - 1) - 1) ∧ (r < (l.length : Int) → ga l r ≠ ga l (r - 1) - 1)
theorem fRun.uniq {l : List Int} {r r' : Int} (h : fRun l r) (h' : fRun l r') : r = r' := by
  have key : ∀ a b, fRun l a → fRun l b → ¬ a < b := fun a b ⟨a1, a2, a3⟩ ⟨b1, b2, b3⟩ c => by
    have h1 : 1 ≤ a := by omega
    exact a3 (by omega) (b2 a h1 c)
  have k1 := key r r' h h'
  have k2 := key r' r h' h
  omega
theorem t_firstRun {Q : ZQ} {σ : ZM} {g : Nat} {l : List Int} (og : SumO σ g) (hl : Lz σ g l) (hp : Pt l) (q : ∀ r, fRun l r → Q (zi r) σ) : WP m_Leads_firstRun 0 [zr g, zu] [] σ (0, 0) Q := by
  have hl1 := hl.1
  have hlen := hp.len
  have h4 := hp.2.1
  have k9 : ∀ (e : Nat) (i : Int), min 1 (l.length : Int) ≤ i → i + e = (l.length : Int) → (∀ y, 1 ≤ y → y < i → ga l y = ga l (y - 1) - 1) → WP m_Leads_firstRun 9 [zr g, zi i] [] σ (0, 0) Q := by
    intro e
    induction e with
    | zero =>
      intro i i1 hi hn
      refine r_Leads_firstRun_9 ?_
      simp only [og.1, hl1, zrI, zrL, zrR, ne_eq, true_and, and_true, true_or, or_true, not_true_eq_false, not_false_eq_true, false_and, and_false, forall_const, true_implies, false_implies, implies_true, reduceCtorEq, Int.reduceEq, Int.reduceNe, Int.reduceLT, Int.reduceLE, Int.reduceNeg, Nat.reduceEqDiff, if_true, if_false, reduceIte, Int.reduceMul, Int.reduceAdd, Int.reduceSub]
      exact ⟨fun _ => q i ⟨⟨i1, by omega⟩, hn, fun c => by omega⟩, fun c => by omega⟩
    | succ e ih =>
      intro i i1 hi hn
      have r1 := hp.rng i
      have r2 := hp.rng (i - 1)
      refine r_Leads_firstRun_9 ?_
      simp only [og.1, hl1, zrI, zrL, zrR, ne_eq, true_and, and_true, true_or, or_true, not_true_eq_false, not_false_eq_true, false_and, and_false, forall_const, true_implies, false_implies, implies_true, reduceCtorEq, Int.reduceEq, Int.reduceNe, Int.reduceLT, Int.reduceLE, Int.reduceNeg, Nat.reduceEqDiff, if_true, if_false, reduceIte, Int.reduceMul, Int.reduceAdd, Int.reduceSub]
      refine ⟨fun c => by omega, fun _ => t_Sum_at og hl ?_⟩
      simp only [og.1, zrI, zrL, zrR, ne_eq, true_and, and_true, true_or, or_true, not_true_eq_false, not_false_eq_true, false_and, and_false, forall_const, true_implies, false_implies, implies_true, reduceCtorEq, Int.reduceEq, Int.reduceNe, Int.reduceLT, Int.reduceLE, Int.reduceNeg, Nat.reduceEqDiff, if_true, if_false, reduceIte, Int.reduceMul, Int.reduceAdd, Int.reduceSub]
      refine ⟨by omega, t_Sum_at og hl ?_⟩
      simp only [zrI, zrL, zrR, ne_eq, true_and, and_true, true_or, or_true, not_true_eq_false, not_false_eq_true, false_and, and_false, forall_const, true_implies, false_implies, implies_true, reduceCtorEq, Int.reduceEq, Int.reduceNe, Int.reduceLT, Int.reduceLE, Int.reduceNeg, Nat.reduceEqDiff, if_true, if_false, reduceIte, Int.reduceMul, Int.reduceAdd, Int.reduceSub]
      refine ⟨by omega, fun c => q i ⟨⟨i1, by omega⟩, hn, fun _ => c⟩, fun c => ⟨by omega, ih (i + 1) (by omega) (by omega) (fun y y1 y2 => ?_)⟩⟩
      by_cases ey : y = i
      · rw [ey]; exact c
      · exact hn y y1 (by omega)
  refine r_Leads_firstRun_0 ?_
  simp only [og.1, hl1, zrI, zrL, zrR, ne_eq, true_and, and_true, true_or, or_true, not_true_eq_false, not_false_eq_true, false_and, and_false, forall_const, true_implies, false_implies, implies_true, reduceCtorEq, Int.reduceEq, Int.reduceNe, Int.reduceLT, Int.reduceLE, Int.reduceNeg, Nat.reduceEqDiff, if_true, if_false, reduceIte, Int.reduceMul, Int.reduceAdd, Int.reduceSub]
  refine t_min ?_
  simp only [zrI, zrL, zrR, ne_eq, true_and, and_true, true_or, or_true, not_true_eq_false, not_false_eq_true, false_and, and_false, forall_const, true_implies, false_implies, implies_true, reduceCtorEq, Int.reduceEq, Int.reduceNe, Int.reduceLT, Int.reduceLE, Int.reduceNeg, Nat.reduceEqDiff, if_true, if_false, reduceIte, Int.reduceMul, Int.reduceAdd, Int.reduceSub]
  exact k9 (l.length - (min 1 (l.length : Int)).toNat) _ (Int.le_refl _) (by omega) (fun y y1 y2 => by omega)
/-- the first n parts, k of them changed by e -/
def shL (l : List Int) (k e : Int) (n : Nat) : List Int := (List.range n).map (fun (j : Nat) => if (j : Int) < k then ga l (j : Int) + e else ga l (j : Int))
theorem shL_snoc {l : List Int} {k e : Int} {n : Nat} : shL l k e (n + 1) = shL l k e n ++ [if (n : Int) < k then ga l (n : Int) + e else ga l (n : Int)] := by
  unfold shL
  rw [List.range_succ, List.map_append]
  rfl
theorem shL_len {l : List Int} {k e : Int} {n : Nat} : (shL l k e n).length = n := by
  unfold shL
  rw [List.length_map, List.length_range]
theorem shL_bd {l : List Int} {k e : Int} (hp : Pt l) (he : -1 ≤ e ∧ e ≤ 1) : ∀ n : Nat, -(n : Int) * 401 ≤ (shL l k e n).sum ∧ (shL l k e n).sum ≤ (n : Int) * 401
  | 0 => by simp [shL]
  | n + 1 => by
    have ih := shL_bd (k := k) hp he n
    have hr := hp.rng (n : Int)
    rw [shL_snoc, List.sum_append]
    simp only [List.sum_cons, List.sum_nil]
    split <;> omega
theorem t_shiftFirst {Q : ZQ} {σ : ZM} {g h : Nat} {l : List Int} {k e : Int} {n : Nat} (hd : h ≠ g ∧ h ≠ g + 1 ∧ h + 1 ≠ g) (og : SumO σ g) (oh : SumO σ h) (hl : Lz σ g l) (hp : Pt l) (he : -1 ≤ e ∧ e ≤ 1) (hn : n ≤ 400) (q : ∀ σ', Lz σ' h (shL l k e n) → Fr (two h) σ σ' → Q zu σ') : WP m_Leads_shiftFirst 0 [zr g, zi (n : Int), zi k, zi e, zr h, zu] [] σ (0, 0) Q := by
  have k8 : ∀ (m j : Nat) (τ : ZM), j + m = n → Lz τ h (shL l k e j) → Fr (two h) σ τ → WP m_Leads_shiftFirst 8 [zr g, zi (n : Int), zi k, zi e, zr h, zi (j : Int)] [] τ (0, 0) Q := by
    intro m
    induction m with
    | zero =>
      intro j τ hj hT f
      rw [show j = n by omega] at hT
      exact r_Leads_shiftFirst_8 ⟨fun _ => q τ hT f, fun c => by omega⟩
    | succ m ih =>
      intro j τ hj hT f
      have ogT := f.sumO og
      have ohT := f.sumO oh
      have hlT := f.lz (by omega) (by omega) hl
      have hr := hp.rng (j : Int)
      have hb := shL_bd (k := k) hp he j
      have hln := shL_len (l := l) (k := k) (e := e) (n := j)
      refine r_Leads_shiftFirst_8 ?_
      simp only [ogT.1, ohT.1, zrI, zrL, zrR, ne_eq, true_and, and_true, true_or, or_true, not_true_eq_false, not_false_eq_true, false_and, and_false, forall_const, true_implies, false_implies, implies_true, reduceCtorEq, Int.reduceEq, Int.reduceNe, Int.reduceLT, Int.reduceLE, Int.reduceNeg, Nat.reduceEqDiff, if_true, if_false, reduceIte, Int.reduceMul, Int.reduceAdd, Int.reduceSub]
      refine ⟨fun c => by omega, fun _ => ⟨fun c => t_Sum_at ogT hlT ?_, fun c => t_Sum_at ogT hlT ?_⟩⟩
      · simp only [ohT.1, zrI, zrL, zrR, ne_eq, true_and, and_true, true_or, or_true, not_true_eq_false, not_false_eq_true, false_and, and_false, forall_const, true_implies, false_implies, implies_true, reduceCtorEq, Int.reduceEq, Int.reduceNe, Int.reduceLT, Int.reduceLE, Int.reduceNeg, Nat.reduceEqDiff, if_true, if_false, reduceIte, Int.reduceMul, Int.reduceAdd, Int.reduceSub]
        refine t_Sum_add ohT hT (by omega) (by omega) (fun υ w1 w2 => ⟨by omega, ?_⟩)
        have := ih (j + 1) υ (by omega) (by rw [shL_snoc, if_neg (by omega)]; exact w1) (f.tr w2)
        rw [Int.natCast_succ] at this
        exact this
      · simp only [ohT.1, zrI, zrL, zrR, ne_eq, true_and, and_true, true_or, or_true, not_true_eq_false, not_false_eq_true, false_and, and_false, forall_const, true_implies, false_implies, implies_true, reduceCtorEq, Int.reduceEq, Int.reduceNe, Int.reduceLT, Int.reduceLE, Int.reduceNeg, Nat.reduceEqDiff, if_true, if_false, reduceIte, Int.reduceMul, Int.reduceAdd, Int.reduceSub]
        refine ⟨by omega, t_Sum_add ohT hT (by omega) (by omega) (fun υ w1 w2 => ⟨by omega, ?_⟩)⟩
        have := ih (j + 1) υ (by omega) (by rw [shL_snoc, if_pos (by omega)]; exact w1) (f.tr w2)
        rw [Int.natCast_succ] at this
        exact this
  refine r_Leads_shiftFirst_0 ?_
  simp only [oh.1, zrI, zrL, zrR, ne_eq, true_and, and_true, true_or, or_true, not_true_eq_false, not_false_eq_true, false_and, and_false, forall_const, true_implies, false_implies, implies_true, reduceCtorEq, Int.reduceEq, Int.reduceNe, Int.reduceLT, Int.reduceLE, Int.reduceNeg, Nat.reduceEqDiff, if_true, if_false, reduceIte, Int.reduceMul, Int.reduceAdd, Int.reduceSub]
  exact t_Sum_empty oh (fun τ w1 w2 => k8 n 0 τ (by omega) w1 w2)
