/-! lead, back: what they ask and what they make; the class -/
def mayK (k x : Int) : Prop := (k = 1 ∧ 2 ≤ x ∧ x ≤ 12) ∨ (2 ≤ k ∧ k ≤ 5 ∧ x = 0)
def LdC (k x f : Int) (l : List Int) : Prop := (k = 1 → f = 0 → ¬ muL l x) ∧ (k = 1 → f = 1 → ¬ tmL l x) ∧ (k = 2 → f = 0 → owL l) ∧ (k = 2 → f = 1 → unL l ∧ odL l) ∧ (k = 3 → f = 0 → unL l) ∧ (k = 3 → f = 1 → odL l) ∧ (k = 5 → unL l)
def LdR (k x f : Int) (l o : List Int) : Prop := (k = 1 → o = oL (if f = 0 then gthF x (cnO l l.length) 400 else cutF x (cnO l l.length) 400) 400) ∧ (k = 2 → f = 0 → ∃ r, Fst (fun i => i < ga l i) r ∧ o = tbl (ohR l) r.toNat) ∧ (k = 2 → f = 1 → o = drL (hfL l) (hfL l) l.length) ∧ (k = 3 → f = 0 → o = ubL l) ∧ (k = 3 → f = 1 → ∃ r, Fst (fun n => 0 < bnF l n) r ∧ o = tbl (bnF l) r.toNat) ∧ (k = 4 → o = cj l) ∧ (k = 5 → ∃ r, fRun l r ∧ o = mvL l r)
theorem LdR.uniq {k x f : Int} {l o o' : List Int} (hk : mayK k x) (hf : f = 0 ∨ f = 1) (h : LdR k x f l o) (h' : LdR k x f l o') : o = o' := by
  have ks : k = 1 ∨ k = 2 ∨ k = 3 ∨ k = 4 ∨ k = 5 := by clear h h'; unfold mayK at hk; omega
  obtain ⟨a1, a2, a3, a4, a5, a6, a7⟩ := h
  obtain ⟨b1, b2, b3, b4, b5, b6, b7⟩ := h'
  rcases ks with e | e | e | e | e
  · rw [a1 e, b1 e]
  · rcases hf with w | w
    · obtain ⟨r, r1, r2⟩ := a2 e w
      obtain ⟨t, t1, t2⟩ := b2 e w
      rw [r2, t2, r1.uniq t1]
    · rw [a3 e w, b3 e w]
  · rcases hf with w | w
    · rw [a4 e w, b4 e w]
    · obtain ⟨r, r1, r2⟩ := a5 e w
      obtain ⟨t, t1, t2⟩ := b5 e w
      rw [r2, t2, r1.uniq t1]
  · rw [a6 e, b6 e]
  · obtain ⟨r, r1, r2⟩ := a7 e
    obtain ⟨t, t1, t2⟩ := b7 e
    rw [r2, t2, r1.uniq t1]
theorem LdR.isPt {k x f : Int} {l o : List Int} (hk : mayK k x) (hf : f = 0 ∨ f = 1) (hp : Pt l) (hc : LdC k x f l) (h : LdR k x f l o) : Pt o := by
  have ks : (k = 1 ∧ 2 ≤ x ∧ x ≤ 12) ∨ k = 2 ∨ k = 3 ∨ k = 4 ∨ k = 5 := by clear h hc; unfold mayK at hk; omega
  obtain ⟨a1, a2, a3, a4, a5, a6, a7⟩ := h
  obtain ⟨c1, c2, c3, c4, c5, c6, c7⟩ := hc
  rcases ks with ⟨e, x0, x1⟩ | e | e | e | e
  · rw [a1 e]
    refine oL_Pt ?_
    split
    · exact gthF_OcP (cnO_OcP hp) x0 400 (Nat.le_refl _)
    · exact cutF_OcP (cnO_OcP hp) x0 400 (Nat.le_refl _)
  · rcases hf with w | w
    · obtain ⟨r, r1, r2⟩ := a2 e w
      rw [r2]
      exact ohR_Pt hp (c3 e w) (fun i i0 i1 => r1.2.1 i i0 (by have := r1.1; clear a1 a2 a3 a4 a5 a6 a7 c1 c2 c3 c4 c5 c6 c7; omega))
    · rw [a3 e w]
      exact (hfL_DrP hp (c4 e w).1 (c4 e w).2).isPt
  · rcases hf with w | w
    · rw [a4 e w]
      exact ubL_Pt hp (c5 e w)
    · obtain ⟨r, r1, r2⟩ := a5 e w
      rw [r2]
      exact bn_Pt hp (c6 e w) (fun n n0 n1 => r1.2.1 n n0 (by have := r1.1; clear a1 a2 a3 a4 a5 a6 a7 c1 c2 c3 c4 c5 c6 c7; omega))
  · rw [a6 e]
    exact Pt_cj hp
  · obtain ⟨r, r1, r2⟩ := a7 e
    rw [r2]
    exact Pt_mvL hp (c7 e) r1
theorem t_canLead {Q : ZQ} {σ : ZM} {k x : Int} (q1 : mayK k x → Q (zi 1) σ) (q0 : ¬ mayK k x → Q (zi 0) σ) : WP m_Leads_canBe 0 [zi k, zi x] [] σ (0, 0) Q := by
  unfold mayK at q1 q0
  refine r_Leads_canBe_0 ⟨fun c => t_isWithin (fun a b => ?_) (fun a => ?_), fun c => t_isWithin (fun a b => ?_) (fun a => ?_)⟩
  · simp only [zrI, zrL, zrR, ne_eq, true_and, and_true, true_or, or_true, not_true_eq_false, not_false_eq_true, false_and, and_false, forall_const, true_implies, false_implies, implies_true, reduceCtorEq, Int.reduceEq, Int.reduceNe, Int.reduceLT, Int.reduceLE, Int.reduceNeg, Nat.reduceEqDiff, if_true, if_false, reduceIte, Int.reduceMul, Int.reduceAdd, Int.reduceSub]
    exact ⟨fun w => q0 (by omega), fun w => q1 (by omega)⟩
  · simp only [zrI, zrL, zrR, ne_eq, true_and, and_true, true_or, or_true, not_true_eq_false, not_false_eq_true, false_and, and_false, forall_const, true_implies, false_implies, implies_true, reduceCtorEq, Int.reduceEq, Int.reduceNe, Int.reduceLT, Int.reduceLE, Int.reduceNeg, Nat.reduceEqDiff, if_true, if_false, reduceIte, Int.reduceMul, Int.reduceAdd, Int.reduceSub]
    exact q0 (by omega)
  · simp only [zrI, zrL, zrR, ne_eq, true_and, and_true, true_or, or_true, not_true_eq_false, not_false_eq_true, false_and, and_false, forall_const, true_implies, false_implies, implies_true, reduceCtorEq, Int.reduceEq, Int.reduceNe, Int.reduceLT, Int.reduceLE, Int.reduceNeg, Nat.reduceEqDiff, if_true, if_false, reduceIte, Int.reduceMul, Int.reduceAdd, Int.reduceSub]
    exact q1 (by omega)
  · simp only [zrI, zrL, zrR, ne_eq, true_and, and_true, true_or, or_true, not_true_eq_false, not_false_eq_true, false_and, and_false, forall_const, true_implies, false_implies, implies_true, reduceCtorEq, Int.reduceEq, Int.reduceNe, Int.reduceLT, Int.reduceLE, Int.reduceNeg, Nat.reduceEqDiff, if_true, if_false, reduceIte, Int.reduceMul, Int.reduceAdd, Int.reduceSub]
    exact q0 (by omega)
