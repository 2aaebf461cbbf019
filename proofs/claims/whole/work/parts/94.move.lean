/-! move, of the class -/
def mvL (l : List Int) (r : Int) : List Int :=
  if l.length = 0 ∨ (r = (l.length : Int) ∧ (ga l ((l.length : Int) - 1) = r ∨ ga l ((l.length : Int) - 1) = r + 1)) then l
  else if r < ga l ((l.length : Int) - 1) then shL l r (-1) l.length ++ [r] else shL l (ga l ((l.length : Int) - 1)) 1 (l.length - 1)
theorem t_move {Q : ZQ} {σ : ZM} {g h : Nat} {l : List Int} (hd : h ≠ g ∧ h ≠ g + 1 ∧ h + 1 ≠ g) (og : SumO σ g) (oh : SumO σ h) (hl : Lz σ g l) (hp : Pt l) (hn4 : l.length < 400) (q : ∀ r, fRun l r → ∀ σ', Lz σ' h (mvL l r) → Fr (two h) σ σ' → Q zu σ') : WP m_Leads_move 0 [zr g, zr h, zu, zu, zu] [] σ (0, 0) Q := by
  have hl1 := hl.1
  have hlen := hp.len
  have h4 := hp.2.1
  refine r_Leads_move_0 ?_
  simp only [og.1, hl1, zrI, zrL, zrR, ne_eq, true_and, and_true, true_or, or_true, not_true_eq_false, not_false_eq_true, false_and, and_false, forall_const, true_implies, false_implies, implies_true, reduceCtorEq, Int.reduceEq, Int.reduceNe, Int.reduceLT, Int.reduceLE, Int.reduceNeg, Nat.reduceEqDiff, if_true, if_false, reduceIte, Int.reduceMul, Int.reduceAdd, Int.reduceSub]
  refine ⟨by omega, t_Sum_at og hl ?_⟩
  simp only [zrI, zrL, zrR, ne_eq, true_and, and_true, true_or, or_true, not_true_eq_false, not_false_eq_true, false_and, and_false, forall_const, true_implies, false_implies, implies_true, reduceCtorEq, Int.reduceEq, Int.reduceNe, Int.reduceLT, Int.reduceLE, Int.reduceNeg, Nat.reduceEqDiff, if_true, if_false, reduceIte, Int.reduceMul, Int.reduceAdd, Int.reduceSub]
  refine t_firstRun og hl hp (fun r hr => ?_)
  simp only [og.1, oh.1, hl1, zrI, zrL, zrR, ne_eq, true_and, and_true, true_or, or_true, not_true_eq_false, not_false_eq_true, false_and, and_false, forall_const, true_implies, false_implies, implies_true, reduceCtorEq, Int.reduceEq, Int.reduceNe, Int.reduceLT, Int.reduceLE, Int.reduceNeg, Nat.reduceEqDiff, if_true, if_false, reduceIte, Int.reduceMul, Int.reduceAdd, Int.reduceSub]
  have hw := hp.rng ((l.length : Int) - 1)
  have hr1 := hr.1
  have tk : Unit → (l.length = 0 ∨ (r = (l.length : Int) ∧ (ga l ((l.length : Int) - 1) = r ∨ ga l ((l.length : Int) - 1) = r + 1))) → WP m_Sum_take 0 [zr h, zr g] [] σ (0, 0) (fun _ σ2 => Q zu σ2) := fun _ c => t_Sum_take hd hp oh og hl (fun τ w1 w2 => q r hr τ (by unfold mvL; rw [if_pos c]; exact w1) w2)
  have dn : Unit → ¬ (l.length = 0 ∨ (r = (l.length : Int) ∧ (ga l ((l.length : Int) - 1) = r ∨ ga l ((l.length : Int) - 1) = r + 1))) → r < ga l ((l.length : Int) - 1) → WP m_Leads_shiftFirst 0 [zr g, zi (l.length : Int), zi r, zi (-1), zr h, zu] [] σ (0, 0) (fun _ σ8 => zobj σ8 h 8 ∧ WP m_Sum_add 0 [zr h, zi r] [] σ8 (0, 0) (fun _ σ11 => Q zu σ11)) := fun _ c c2 => by
    refine t_shiftFirst hd og oh hl hp (by omega) (by omega) (fun τ w1 w2 => ⟨(w2.sumO oh).1, ?_⟩)
    have hb := shL_bd (k := r) (e := -1) hp (by omega) l.length
    refine t_Sum_add (w2.sumO oh) w1 (by rw [shL_len]; omega) (by omega) (fun υ j1 j2 => q r hr υ ?_ (w2.tr j2))
    unfold mvL
    rw [if_neg c, if_pos c2]
    exact j1
  have up : Unit → ¬ (l.length = 0 ∨ (r = (l.length : Int) ∧ (ga l ((l.length : Int) - 1) = r ∨ ga l ((l.length : Int) - 1) = r + 1))) → ga l ((l.length : Int) - 1) ≤ r → WP m_Leads_shiftFirst 0 [zr g, zi ((l.length : Int) - 1), zi (ga l ((l.length : Int) - 1)), zi 1, zr h, zu] [] σ (0, 0) (fun _ σ8 => Q zu σ8) := fun _ c c2 => by
    have e : WP m_Leads_shiftFirst 0 [zr g, zi ((l.length - 1 : Nat) : Int), zi (ga l ((l.length : Int) - 1)), zi 1, zr h, zu] [] σ (0, 0) (fun _ σ8 => Q zu σ8) := by
      refine t_shiftFirst hd og oh hl hp (by omega) (by omega) (fun τ w1 w2 => q r hr τ ?_ w2)
      unfold mvL
      rw [if_neg c, if_neg (by omega)]
      exact w1
    rw [show ((l.length - 1 : Nat) : Int) = (l.length : Int) - 1 by
      have : ¬ l.length = 0 := fun w => c (Or.inl w)
      omega] at e
    exact e
  refine ⟨fun c1 => ⟨fun c2 => ⟨fun c3 => dn () (fun w => by omega) c3, fun c3 => ⟨by omega, up () (fun w => by omega) c3⟩⟩, fun c2 => tk () (Or.inl (by omega))⟩, fun c1 => ⟨fun c2 => tk () (Or.inr ⟨c1, Or.inl c2⟩), fun c2 => ⟨by omega, fun c3 => tk () (Or.inr ⟨c1, Or.inr c3⟩), fun c3 => ⟨fun c4 => ⟨fun c5 => dn () (fun w => by omega) c5, fun c5 => ⟨by omega, up () (fun w => by omega) c5⟩⟩, fun c4 => tk () (Or.inl (by omega))⟩⟩⟩⟩
