/-! the calls on series, of the class -/
theorem Shp.r5 {σ : ZM} (hs : Shp σ) {x : Int} (x0 : 0 ≤ x) (x1 : x ≤ 3) : zR σ 5 x = 6 + x.toNat := hs.2.2 5 x (by unfold rfx; omega)
theorem Shp.isRow {σ : ZM} (hs : Shp σ) {x : Int} (x0 : 0 ≤ x) (x1 : x ≤ 3) : IsRow σ (6 + x.toNat) := by
  refine ⟨by omega, by rw [hs.1]; omega, ?_⟩
  rw [hs.2.1 _ (by omega) (by omega)]
  have : x = 0 ∨ x = 1 ∨ x = 2 ∨ x = 3 := by omega
  rcases this with rfl | rfl | rfl | rfl <;> rfl
theorem Shp.lawRow {σ : ZM} (hs : Shp σ) {h : Nat} (s : isL h) : IsRow σ (h + 1) := by
  obtain ⟨s1, s2, s3⟩ := s
  refine ⟨by omega, by rw [hs.1]; omega, ?_⟩
  rw [hs.2.1 _ (by omega) (by omega)]
  unfold sh0
  rw [if_neg (by omega), if_neg (by omega), if_neg (by omega), if_neg (by omega), if_pos (by omega), if_neg (by omega)]
def RowsI (σ : ZM) (R : Int → SQ) : Prop := ∀ x, 0 ≤ x → x ≤ 3 → RV0 σ (6 + x.toNat) (R x)
def upR (R : Int → SQ) (x : Int) (s : SQ) : Int → SQ := fun y => if y = x then s else R y
abbrev rwf (a : Nat) : Prop := (6 ≤ a ∧ a ≤ 9) ∨ a = 159
theorem Fz.rowsI {P : Nat → Int → Prop} {σ σ' : ZM} (h : Fz P σ σ') {R : Int → SQ} (hP : ∀ a j, 6 ≤ a → a ≤ 9 → ¬ P a j) (r : RowsI σ R) : RowsI σ' R := fun x x0 x1 => h.rv (fun j => hP _ j (by omega) (by omega)) (r x x0 x1)
theorem RowsI.up {σ σ' : ZM} {R : Int → SQ} {x : Int} {s : SQ} (r : RowsI σ R) (x0 : 0 ≤ x) (x1 : x ≤ 3) {P : Nat → Prop} (f : Fr P σ σ') (hP : ∀ a, P a → a = 6 + x.toNat ∨ a = 159) (h : RV0 σ' (6 + x.toNat) s) : RowsI σ' (upR R x s) := fun y y0 y1 => by
  unfold upR
  by_cases e : y = x
  · rw [if_pos e, e]; exact h
  · rw [if_neg e]; exact f.rv (fun w => by have := hP _ w; omega) (r y y0 y1)
theorem t_one {Q : ZQ} {σ : ZM} {R : Int → SQ} {x : Int} (hS : Shp σ) (r : RowsI σ R) (q0 : (x < 0 ∨ 3 < x) → Q (zi (-2)) σ) (q1 : 0 ≤ x → x ≤ 3 → ∀ σ', RowsI σ' (upR R x oneS) → Fr rwf σ σ' → Q (zi 1) σ') : WP m_PP_one 0 [zr 2, zi x] [] σ (0, 0) Q := by
  refine r_PP_one_0 (t_isSeries (fun x0 x1 => ?_) (fun c => ?_))
  · simp only [hS, hS.r5 x0 x1, zrI, zrL, zrR, Shp_wI, Shp_wJ, zR_wI, zR_wJ, zJ_wI, zI_wJ, zobj_wI, zobj_wJ, zarr_wI, zarr_wJ, zS_wI, zS_wJ, o_2, a_3, a_4, a_5, o_10, a_11, a_12, o_137, o_138, a_139, o_140, a_141, o_142, a_143, o_146, a_147, a_148, a_149, o_152, a_153, o_154, a_157, o_158, a_159, r_2_0, r_2_1, r_2_2, r_2_3, r_2_4, r_2_5, r_2_6, r_2_7, r_2_8, r_2_9, r_2_10, r_10_0, r_10_1, r_137_0, r_137_1, r_137_2, r_138_0, r_140_0, r_142_0, r_146_0, r_146_1, r_146_2, r_146_3, r_152_0, r_154_0, r_154_1, r_158_0, zrI, zrL, zrR, ne_eq, true_and, and_true, true_or, or_true, not_true_eq_false, not_false_eq_true, false_and, and_false, forall_const, true_implies, false_implies, implies_true, reduceCtorEq, Int.reduceEq, Int.reduceNe, Int.reduceLT, Int.reduceLE, Int.reduceNeg, Nat.reduceEqDiff, if_true, if_false, reduceIte, Int.reduceMul, Int.reduceAdd, Int.reduceSub]
    repeat' first | omega | exact Or.inl (by omega) | apply And.intro | refine fun (_ : _ ≤ _) => ?_ | refine fun (_ : _ < _) => ?_ | refine fun (_ : _ = _) => ?_ | refine fun (_ : ¬ (_ = _)) => ?_ | refine fun (_ : _ ∨ _) => ?_
    exact t_setOne (hS.isRow x0 x1) (fun τ k1 k2 => q1 x0 x1 τ (r.up x0 x1 k2 (fun a w => Or.inl w) k1) (k2.mono (fun a w => by omega)))
  · simp only [zrI, zrL, zrR, ne_eq, true_and, and_true, true_or, or_true, not_true_eq_false, not_false_eq_true, false_and, and_false, forall_const, true_implies, false_implies, implies_true, reduceCtorEq, Int.reduceEq, Int.reduceNe, Int.reduceLT, Int.reduceLE, Int.reduceNeg, Nat.reduceEqDiff, if_true, if_false, reduceIte, Int.reduceMul, Int.reduceAdd, Int.reduceSub]
    exact q0 c
theorem t_factors {Q : ZQ} {σ : ZM} {R : Int → SQ} {x m r e : Int} (hS : Shp σ) (hR : RowsI σ R) (q0 : (x < 0 ∨ 3 < x ∨ m < 1 ∨ 400 < m ∨ r < 0 ∨ m - 1 < r ∨ e < -20 ∨ 20 < e) → Q (zi (-2)) σ) (q1 : 0 ≤ x → x ≤ 3 → 1 ≤ m → m ≤ 400 → 0 ≤ r → r ≤ m - 1 → -20 ≤ e → e ≤ 20 → ∀ σ', RowsI σ' (upR R x (facX m.toNat r.toNat e (R x))) → Fr rwf σ σ' → Q (zi 1) σ') : WP m_PP_factors 0 [zr 2, zi x, zi m, zi r, zi e] [] σ (0, 0) Q := by
  refine r_PP_factors_0 (t_isSeries (fun x0 x1 => ?_) (fun c => ?_))
  · simp only [zrI, zrL, zrR, ne_eq, true_and, and_true, true_or, or_true, not_true_eq_false, not_false_eq_true, false_and, and_false, forall_const, true_implies, false_implies, implies_true, reduceCtorEq, Int.reduceEq, Int.reduceNe, Int.reduceLT, Int.reduceLE, Int.reduceNeg, Nat.reduceEqDiff, if_true, if_false, reduceIte, Int.reduceMul, Int.reduceAdd, Int.reduceSub]
    refine t_isWithin (fun m0 m1 => ?_) (fun c => ?_)
    · simp only [zrI, zrL, zrR, ne_eq, true_and, and_true, true_or, or_true, not_true_eq_false, not_false_eq_true, false_and, and_false, forall_const, true_implies, false_implies, implies_true, reduceCtorEq, Int.reduceEq, Int.reduceNe, Int.reduceLT, Int.reduceLE, Int.reduceNeg, Nat.reduceEqDiff, if_true, if_false, reduceIte, Int.reduceMul, Int.reduceAdd, Int.reduceSub]
      refine ⟨by omega, t_isWithin (fun r0 r1 => ?_) (fun c => ?_)⟩
      · simp only [zrI, zrL, zrR, ne_eq, true_and, and_true, true_or, or_true, not_true_eq_false, not_false_eq_true, false_and, and_false, forall_const, true_implies, false_implies, implies_true, reduceCtorEq, Int.reduceEq, Int.reduceNe, Int.reduceLT, Int.reduceLE, Int.reduceNeg, Nat.reduceEqDiff, if_true, if_false, reduceIte, Int.reduceMul, Int.reduceAdd, Int.reduceSub]
        refine t_isWithin (fun e0 e1 => ?_) (fun c => ?_)
        · simp only [hS, hS.r5 x0 x1, zrI, zrL, zrR, Shp_wI, Shp_wJ, zR_wI, zR_wJ, zJ_wI, zI_wJ, zobj_wI, zobj_wJ, zarr_wI, zarr_wJ, zS_wI, zS_wJ, o_2, a_3, a_4, a_5, o_10, a_11, a_12, o_137, o_138, a_139, o_140, a_141, o_142, a_143, o_146, a_147, a_148, a_149, o_152, a_153, o_154, a_157, o_158, a_159, r_2_0, r_2_1, r_2_2, r_2_3, r_2_4, r_2_5, r_2_6, r_2_7, r_2_8, r_2_9, r_2_10, r_10_0, r_10_1, r_137_0, r_137_1, r_137_2, r_138_0, r_140_0, r_142_0, r_146_0, r_146_1, r_146_2, r_146_3, r_152_0, r_154_0, r_154_1, r_158_0, zrI, zrL, zrR, ne_eq, true_and, and_true, true_or, or_true, not_true_eq_false, not_false_eq_true, false_and, and_false, forall_const, true_implies, false_implies, implies_true, reduceCtorEq, Int.reduceEq, Int.reduceNe, Int.reduceLT, Int.reduceLE, Int.reduceNeg, Nat.reduceEqDiff, if_true, if_false, reduceIte, Int.reduceMul, Int.reduceAdd, Int.reduceSub]
          repeat' first | omega | exact Or.inl (by omega) | apply And.intro | refine fun (_ : _ ≤ _) => ?_ | refine fun (_ : _ < _) => ?_ | refine fun (_ : _ = _) => ?_ | refine fun (_ : ¬ (_ = _)) => ?_ | refine fun (_ : _ ∨ _) => ?_
          obtain ⟨m, rfl⟩ := Int.eq_ofNat_of_zero_le (show 0 ≤ m by omega)
          obtain ⟨r, rfl⟩ := Int.eq_ofNat_of_zero_le r0
          exact t_takeFactors hS (Or.inr rfl) (hS.isRow x0 x1) (by omega) (by omega) (by omega) (by omega) e0 e1 (hR x x0 x1) (fun τ k1 k2 => q1 x0 x1 m0 m1 r0 r1 e0 e1 τ (hR.up x0 x1 k2 (fun a w => w) k1) (k2.mono (fun a w => by omega)))
        · simp only [zrI, zrL, zrR, ne_eq, true_and, and_true, true_or, or_true, not_true_eq_false, not_false_eq_true, false_and, and_false, forall_const, true_implies, false_implies, implies_true, reduceCtorEq, Int.reduceEq, Int.reduceNe, Int.reduceLT, Int.reduceLE, Int.reduceNeg, Nat.reduceEqDiff, if_true, if_false, reduceIte, Int.reduceMul, Int.reduceAdd, Int.reduceSub]
          exact q0 (by omega)
      · simp only [zrI, zrL, zrR, ne_eq, true_and, and_true, true_or, or_true, not_true_eq_false, not_false_eq_true, false_and, and_false, forall_const, true_implies, false_implies, implies_true, reduceCtorEq, Int.reduceEq, Int.reduceNe, Int.reduceLT, Int.reduceLE, Int.reduceNeg, Nat.reduceEqDiff, if_true, if_false, reduceIte, Int.reduceMul, Int.reduceAdd, Int.reduceSub]
        exact q0 (by omega)
    · simp only [zrI, zrL, zrR, ne_eq, true_and, and_true, true_or, or_true, not_true_eq_false, not_false_eq_true, false_and, and_false, forall_const, true_implies, false_implies, implies_true, reduceCtorEq, Int.reduceEq, Int.reduceNe, Int.reduceLT, Int.reduceLE, Int.reduceNeg, Nat.reduceEqDiff, if_true, if_false, reduceIte, Int.reduceMul, Int.reduceAdd, Int.reduceSub]
      exact q0 (by omega)
  · simp only [zrI, zrL, zrR, ne_eq, true_and, and_true, true_or, or_true, not_true_eq_false, not_false_eq_true, false_and, and_false, forall_const, true_implies, false_implies, implies_true, reduceCtorEq, Int.reduceEq, Int.reduceNe, Int.reduceLT, Int.reduceLE, Int.reduceNeg, Nat.reduceEqDiff, if_true, if_false, reduceIte, Int.reduceMul, Int.reduceAdd, Int.reduceSub]
    exact q0 (by omega)
theorem t_signs {Q : ZQ} {σ : ZM} {R : Int → SQ} {x a b : Int} (hS : Shp σ) (hR : RowsI σ R) (q0 : (x < 0 ∨ 3 < x ∨ a < 1 ∨ 100 < a ∨ b < 1 - a ∨ a - 1 < b ∨ Int.tmod (a + b) 2 ≠ 0) → Q (zi (-2)) σ) (q1 : 0 ≤ x → x ≤ 3 → 1 ≤ a → a ≤ 100 → 1 - a ≤ b → b ≤ a - 1 → Int.tmod (a + b) 2 = 0 → ∀ σ', RowsI σ' (upR R x (sgs a b 61 (-30) (fun _ => 0))) → Fr rwf σ σ' → Q (zi 1) σ') : WP m_PP_signs 0 [zr 2, zi x, zi a, zi b] [] σ (0, 0) Q := by
  refine r_PP_signs_0 (t_isSeries (fun x0 x1 => ?_) (fun c => ?_))
  · simp only [zrI, zrL, zrR, ne_eq, true_and, and_true, true_or, or_true, not_true_eq_false, not_false_eq_true, false_and, and_false, forall_const, true_implies, false_implies, implies_true, reduceCtorEq, Int.reduceEq, Int.reduceNe, Int.reduceLT, Int.reduceLE, Int.reduceNeg, Nat.reduceEqDiff, if_true, if_false, reduceIte, Int.reduceMul, Int.reduceAdd, Int.reduceSub]
    refine t_isWithin (fun a0 a1 => ?_) (fun c => ?_)
    · simp only [zrI, zrL, zrR, ne_eq, true_and, and_true, true_or, or_true, not_true_eq_false, not_false_eq_true, false_and, and_false, forall_const, true_implies, false_implies, implies_true, reduceCtorEq, Int.reduceEq, Int.reduceNe, Int.reduceLT, Int.reduceLE, Int.reduceNeg, Nat.reduceEqDiff, if_true, if_false, reduceIte, Int.reduceMul, Int.reduceAdd, Int.reduceSub]
      refine ⟨by omega, by omega, t_isWithin (fun b0 b1 => ?_) (fun c => ?_)⟩
      · have hd : -2147483648 ≤ Int.tdiv (a + b) 2 ∧ Int.tdiv (a + b) 2 ≤ 2147483647 := by
          have := Int.natAbs_tdiv_le_natAbs (a + b) 2
          omega
        simp only [hS, hS.r5 x0 x1, zrI, zrL, zrR, Shp_wI, Shp_wJ, zR_wI, zR_wJ, zJ_wI, zI_wJ, zobj_wI, zobj_wJ, zarr_wI, zarr_wJ, zS_wI, zS_wJ, o_2, a_3, a_4, a_5, o_10, a_11, a_12, o_137, o_138, a_139, o_140, a_141, o_142, a_143, o_146, a_147, a_148, a_149, o_152, a_153, o_154, a_157, o_158, a_159, r_2_0, r_2_1, r_2_2, r_2_3, r_2_4, r_2_5, r_2_6, r_2_7, r_2_8, r_2_9, r_2_10, r_10_0, r_10_1, r_137_0, r_137_1, r_137_2, r_138_0, r_140_0, r_142_0, r_146_0, r_146_1, r_146_2, r_146_3, r_152_0, r_154_0, r_154_1, r_158_0, zrI, zrL, zrR, ne_eq, true_and, and_true, true_or, or_true, not_true_eq_false, not_false_eq_true, false_and, and_false, forall_const, true_implies, false_implies, implies_true, reduceCtorEq, Int.reduceEq, Int.reduceNe, Int.reduceLT, Int.reduceLE, Int.reduceNeg, Nat.reduceEqDiff, if_true, if_false, reduceIte, Int.reduceMul, Int.reduceAdd, Int.reduceSub]
        refine ⟨by omega, hd, fun c => ⟨by omega, ?_⟩, fun c => q0 (by omega)⟩
        exact t_setSigns (hS.isRow x0 x1) a0 a1 b0 b1 (fun τ k1 k2 => q1 x0 x1 a0 a1 b0 b1 c τ (hR.up x0 x1 k2 (fun a w => Or.inl w) k1) (k2.mono (fun a w => by omega)))
      · simp only [zrI, zrL, zrR, ne_eq, true_and, and_true, true_or, or_true, not_true_eq_false, not_false_eq_true, false_and, and_false, forall_const, true_implies, false_implies, implies_true, reduceCtorEq, Int.reduceEq, Int.reduceNe, Int.reduceLT, Int.reduceLE, Int.reduceNeg, Nat.reduceEqDiff, if_true, if_false, reduceIte, Int.reduceMul, Int.reduceAdd, Int.reduceSub]
        exact q0 (by omega)
    · simp only [zrI, zrL, zrR, ne_eq, true_and, and_true, true_or, or_true, not_true_eq_false, not_false_eq_true, false_and, and_false, forall_const, true_implies, false_implies, implies_true, reduceCtorEq, Int.reduceEq, Int.reduceNe, Int.reduceLT, Int.reduceLE, Int.reduceNeg, Nat.reduceEqDiff, if_true, if_false, reduceIte, Int.reduceMul, Int.reduceAdd, Int.reduceSub]
      exact q0 (by omega)
  · simp only [zrI, zrL, zrR, ne_eq, true_and, and_true, true_or, or_true, not_true_eq_false, not_false_eq_true, false_and, and_false, forall_const, true_implies, false_implies, implies_true, reduceCtorEq, Int.reduceEq, Int.reduceNe, Int.reduceLT, Int.reduceLE, Int.reduceNeg, Nat.reduceEqDiff, if_true, if_false, reduceIte, Int.reduceMul, Int.reduceAdd, Int.reduceSub]
    exact q0 (by omega)
/-- what combine makes -/
def cmb (k : Int) (R : Int → SQ) (x y : Int) : SQ := if k = 3 then shS y.toNat (R x) else if k = 0 then mulS (R x) (R y) else fun n => R x n + (if k = 1 then 1 else Int64.ofNat 18446744073709551615) * R y n
theorem t_combine {Q : ZQ} {σ : ZM} {R : Int → SQ} {k x y : Int} (hS : Shp σ) (hR : RowsI σ R) (q0 : (k < 0 ∨ 3 < k ∨ x < 0 ∨ 3 < x ∨ y < 0 ∨ (k = 3 ∧ 400 < y) ∨ (k ≠ 3 ∧ 3 < y)) → Q (zi (-2)) σ) (q1 : 0 ≤ k → k ≤ 3 → 0 ≤ x → x ≤ 3 → 0 ≤ y → ((k = 3 ∧ y ≤ 400) ∨ (k ≠ 3 ∧ y ≤ 3)) → ∀ σ', RowsI σ' (upR R x (cmb k R x y)) → Fr rwf σ σ' → Q (zi 1) σ') : WP m_PP_combine 0 [zr 2, zi k, zi x, zi y] [] σ (0, 0) Q := by
  refine r_PP_combine_0 (t_isWithin (fun k0 k1 => ?_) (fun c => ?_))
  · simp only [zrI, zrL, zrR, ne_eq, true_and, and_true, true_or, or_true, not_true_eq_false, not_false_eq_true, false_and, and_false, forall_const, true_implies, false_implies, implies_true, reduceCtorEq, Int.reduceEq, Int.reduceNe, Int.reduceLT, Int.reduceLE, Int.reduceNeg, Nat.reduceEqDiff, if_true, if_false, reduceIte, Int.reduceMul, Int.reduceAdd, Int.reduceSub]
    refine t_isSeries (fun x0 x1 => ?_) (fun c => ?_)
    · simp only [zrI, zrL, zrR, ne_eq, true_and, and_true, true_or, or_true, not_true_eq_false, not_false_eq_true, false_and, and_false, forall_const, true_implies, false_implies, implies_true, reduceCtorEq, Int.reduceEq, Int.reduceNe, Int.reduceLT, Int.reduceLE, Int.reduceNeg, Nat.reduceEqDiff, if_true, if_false, reduceIte, Int.reduceMul, Int.reduceAdd, Int.reduceSub]
      refine ⟨fun k3 => t_isSeries (fun y0 y1 => ?_) (fun c => ?_), fun k3 => t_isWithin (fun y0 y1 => ?_) (fun c => ?_)⟩
      · simp only [hS, hS.r5 x0 x1, hS.r5 y0 y1, zrI, zrL, zrR, Shp_wI, Shp_wJ, zR_wI, zR_wJ, zJ_wI, zI_wJ, zobj_wI, zobj_wJ, zarr_wI, zarr_wJ, zS_wI, zS_wJ, o_2, a_3, a_4, a_5, o_10, a_11, a_12, o_137, o_138, a_139, o_140, a_141, o_142, a_143, o_146, a_147, a_148, a_149, o_152, a_153, o_154, a_157, o_158, a_159, r_2_0, r_2_1, r_2_2, r_2_3, r_2_4, r_2_5, r_2_6, r_2_7, r_2_8, r_2_9, r_2_10, r_10_0, r_10_1, r_137_0, r_137_1, r_137_2, r_138_0, r_140_0, r_142_0, r_146_0, r_146_1, r_146_2, r_146_3, r_152_0, r_154_0, r_154_1, r_158_0, zrI, zrL, zrR, ne_eq, true_and, and_true, true_or, or_true, not_true_eq_false, not_false_eq_true, false_and, and_false, forall_const, true_implies, false_implies, implies_true, reduceCtorEq, Int.reduceEq, Int.reduceNe, Int.reduceLT, Int.reduceLE, Int.reduceNeg, Nat.reduceEqDiff, if_true, if_false, reduceIte, Int.reduceMul, Int.reduceAdd, Int.reduceSub]
        refine ⟨fun _ => ⟨fun kn => ⟨by omega, by omega, fun kn1 => ?_, fun ke1 => ?_⟩, fun ke0 => ⟨by omega, by omega, ?_⟩⟩, fun c => absurd c k3⟩
        · refine t_addTimes (hS.isRow x0 x1) (hS.isRow y0 y1) (hR x x0 x1) (hR y y0 y1) (fun τ w1 w2 => q1 k0 k1 x0 x1 y0 (Or.inr ⟨k3, y1⟩) τ (hR.up x0 x1 w2 (fun a w => Or.inl w) ?_) (w2.mono (fun a w => by omega)))
          unfold cmb
          rw [if_neg k3, if_neg kn, if_neg kn1]
          exact w1
        · refine t_addTimes (hS.isRow x0 x1) (hS.isRow y0 y1) (hR x x0 x1) (hR y y0 y1) (fun τ w1 w2 => q1 k0 k1 x0 x1 y0 (Or.inr ⟨k3, y1⟩) τ (hR.up x0 x1 w2 (fun a w => Or.inl w) ?_) (w2.mono (fun a w => by omega)))
          unfold cmb
          rw [if_neg k3, if_neg kn, if_pos ke1]
          exact w1
        · refine t_multiply (hS.isRow x0 x1) (hS.isRow y0 y1) (hR x x0 x1) (hR y y0 y1) (fun τ w1 w2 => q1 k0 k1 x0 x1 y0 (Or.inr ⟨k3, y1⟩) τ (hR.up x0 x1 w2 (fun a w => Or.inl w) ?_) (w2.mono (fun a w => by omega)))
          unfold cmb
          rw [if_neg k3, if_pos ke0]
          exact w1
      · simp only [zrI, zrL, zrR, ne_eq, true_and, and_true, true_or, or_true, not_true_eq_false, not_false_eq_true, false_and, and_false, forall_const, true_implies, false_implies, implies_true, reduceCtorEq, Int.reduceEq, Int.reduceNe, Int.reduceLT, Int.reduceLE, Int.reduceNeg, Nat.reduceEqDiff, if_true, if_false, reduceIte, Int.reduceMul, Int.reduceAdd, Int.reduceSub]
        exact q0 (by omega)
      · simp only [hS, hS.r5 x0 x1, zrI, zrL, zrR, Shp_wI, Shp_wJ, zR_wI, zR_wJ, zJ_wI, zI_wJ, zobj_wI, zobj_wJ, zarr_wI, zarr_wJ, zS_wI, zS_wJ, o_2, a_3, a_4, a_5, o_10, a_11, a_12, o_137, o_138, a_139, o_140, a_141, o_142, a_143, o_146, a_147, a_148, a_149, o_152, a_153, o_154, a_157, o_158, a_159, r_2_0, r_2_1, r_2_2, r_2_3, r_2_4, r_2_5, r_2_6, r_2_7, r_2_8, r_2_9, r_2_10, r_10_0, r_10_1, r_137_0, r_137_1, r_137_2, r_138_0, r_140_0, r_142_0, r_146_0, r_146_1, r_146_2, r_146_3, r_152_0, r_154_0, r_154_1, r_158_0, zrI, zrL, zrR, ne_eq, true_and, and_true, true_or, or_true, not_true_eq_false, not_false_eq_true, false_and, and_false, forall_const, true_implies, false_implies, implies_true, reduceCtorEq, Int.reduceEq, Int.reduceNe, Int.reduceLT, Int.reduceLE, Int.reduceNeg, Nat.reduceEqDiff, if_true, if_false, reduceIte, Int.reduceMul, Int.reduceAdd, Int.reduceSub]
        refine ⟨fun c => absurd k3 c, fun _ => ⟨by omega, ?_⟩⟩
        obtain ⟨y, rfl⟩ := Int.eq_ofNat_of_zero_le y0
        refine t_moveUp (hS.isRow x0 x1) (by omega) (hR x x0 x1) (fun τ w1 w2 => q1 k0 k1 x0 x1 y0 (Or.inl ⟨k3, y1⟩) τ (hR.up x0 x1 w2 (fun a w => Or.inl w) ?_) (w2.mono (fun a w => by omega)))
        unfold cmb
        rw [if_pos k3, Int.toNat_natCast]
        exact w1
      · simp only [zrI, zrL, zrR, ne_eq, true_and, and_true, true_or, or_true, not_true_eq_false, not_false_eq_true, false_and, and_false, forall_const, true_implies, false_implies, implies_true, reduceCtorEq, Int.reduceEq, Int.reduceNe, Int.reduceLT, Int.reduceLE, Int.reduceNeg, Nat.reduceEqDiff, if_true, if_false, reduceIte, Int.reduceMul, Int.reduceAdd, Int.reduceSub]
        exact q0 (by omega)
    · simp only [zrI, zrL, zrR, ne_eq, true_and, and_true, true_or, or_true, not_true_eq_false, not_false_eq_true, false_and, and_false, forall_const, true_implies, false_implies, implies_true, reduceCtorEq, Int.reduceEq, Int.reduceNe, Int.reduceLT, Int.reduceLE, Int.reduceNeg, Nat.reduceEqDiff, if_true, if_false, reduceIte, Int.reduceMul, Int.reduceAdd, Int.reduceSub]
      exact q0 (by omega)
  · simp only [zrI, zrL, zrR, ne_eq, true_and, and_true, true_or, or_true, not_true_eq_false, not_false_eq_true, false_and, and_false, forall_const, true_implies, false_implies, implies_true, reduceCtorEq, Int.reduceEq, Int.reduceNe, Int.reduceLT, Int.reduceLE, Int.reduceNeg, Nat.reduceEqDiff, if_true, if_false, reduceIte, Int.reduceMul, Int.reduceAdd, Int.reduceSub]
    exact q0 (by omega)
theorem t_series {Q : ZQ} {σ : ZM} {R : Int → SQ} {x p : Int} (hS : Shp σ) (hR : RowsI σ R) (q0 : (x < 0 ∨ 3 < x ∨ p < 0 ∨ 400 < p) → Q (zl (Int64.ofNat 9223372036854775808)) σ) (q1 : 0 ≤ x → x ≤ 3 → 0 ≤ p → p ≤ 400 → Q (zl (R x p.toNat)) σ) : WP m_PP_series 0 [zr 2, zi x, zi p] [] σ (0, 0) Q := by
  refine r_PP_series_0 (t_isSeries (fun x0 x1 => ?_) (fun c => ?_))
  · simp only [zrI, zrL, zrR, ne_eq, true_and, and_true, true_or, or_true, not_true_eq_false, not_false_eq_true, false_and, and_false, forall_const, true_implies, false_implies, implies_true, reduceCtorEq, Int.reduceEq, Int.reduceNe, Int.reduceLT, Int.reduceLE, Int.reduceNeg, Nat.reduceEqDiff, if_true, if_false, reduceIte, Int.reduceMul, Int.reduceAdd, Int.reduceSub]
    refine t_isWithin (fun p0 p1 => ?_) (fun c => ?_)
    · simp only [hS, hS.r5 x0 x1, zrI, zrL, zrR, Shp_wI, Shp_wJ, zR_wI, zR_wJ, zJ_wI, zI_wJ, zobj_wI, zobj_wJ, zarr_wI, zarr_wJ, zS_wI, zS_wJ, o_2, a_3, a_4, a_5, o_10, a_11, a_12, o_137, o_138, a_139, o_140, a_141, o_142, a_143, o_146, a_147, a_148, a_149, o_152, a_153, o_154, a_157, o_158, a_159, r_2_0, r_2_1, r_2_2, r_2_3, r_2_4, r_2_5, r_2_6, r_2_7, r_2_8, r_2_9, r_2_10, r_10_0, r_10_1, r_137_0, r_137_1, r_137_2, r_138_0, r_140_0, r_142_0, r_146_0, r_146_1, r_146_2, r_146_3, r_152_0, r_154_0, r_154_1, r_158_0, zrI, zrL, zrR, ne_eq, true_and, and_true, true_or, or_true, not_true_eq_false, not_false_eq_true, false_and, and_false, forall_const, true_implies, false_implies, implies_true, reduceCtorEq, Int.reduceEq, Int.reduceNe, Int.reduceLT, Int.reduceLE, Int.reduceNeg, Nat.reduceEqDiff, if_true, if_false, reduceIte, Int.reduceMul, Int.reduceAdd, Int.reduceSub]
      have e := hR x x0 x1 p.toNat (by omega)
      rw [show (p.toNat : Int) = p by omega] at e
      rw [e]
      exact ⟨by omega, (hS.isRow x0 x1).arr p0 p1, q1 x0 x1 p0 p1⟩
    · simp only [zrI, zrL, zrR, ne_eq, true_and, and_true, true_or, or_true, not_true_eq_false, not_false_eq_true, false_and, and_false, forall_const, true_implies, false_implies, implies_true, reduceCtorEq, Int.reduceEq, Int.reduceNe, Int.reduceLT, Int.reduceLE, Int.reduceNeg, Nat.reduceEqDiff, if_true, if_false, reduceIte, Int.reduceMul, Int.reduceAdd, Int.reduceSub]
      exact q0 (by omega)
  · simp only [zrI, zrL, zrR, ne_eq, true_and, and_true, true_or, or_true, not_true_eq_false, not_false_eq_true, false_and, and_false, forall_const, true_implies, false_implies, implies_true, reduceCtorEq, Int.reduceEq, Int.reduceNe, Int.reduceLT, Int.reduceLE, Int.reduceNeg, Nat.reduceEqDiff, if_true, if_false, reduceIte, Int.reduceMul, Int.reduceAdd, Int.reduceSub]
    exact q0 (by omega)
/-- the first place at which two series differ -/
def SameR (s t : SQ) (r : Int) : Prop := (r = -1 ∧ Lk s t) ∨ ∃ n : Nat, r = n ∧ n ≤ 400 ∧ s n ≠ t n ∧ ∀ m, m < n → s m = t m
theorem SameR.uniq {s t : SQ} {r r' : Int} (h : SameR s t r) (h' : SameR s t r') : r = r' := by
  rcases h with ⟨h1, h2⟩ | ⟨n, h1, h2, h3, h4⟩ <;> rcases h' with ⟨g1, g2⟩ | ⟨m, g1, g2, g3, g4⟩
  · omega
  · exact absurd (h2 m g2) g3
  · exact absurd (g2 n h2) h3
  · rcases Nat.lt_trichotomy n m with e | e | e
    · exact absurd (g4 n e) h3
    · omega
    · exact absurd (h4 m e) g3
theorem t_same {Q : ZQ} {σ : ZM} {R : Int → SQ} {x y : Int} (hS : Shp σ) (hR : RowsI σ R) (q0 : (x < 0 ∨ 3 < x ∨ y < 0 ∨ 3 < y) → Q (zi (-2)) σ) (q1 : 0 ≤ x → x ≤ 3 → 0 ≤ y → y ≤ 3 → ∀ r, SameR (R x) (R y) r → Q (zi r) σ) : WP m_PP_same 0 [zr 2, zi x, zi y, zu] [] σ (0, 0) Q := by
  refine r_PP_same_0 (t_isSeries (fun x0 x1 => ?_) (fun c => ?_))
  · simp only [zrI, zrL, zrR, ne_eq, true_and, and_true, true_or, or_true, not_true_eq_false, not_false_eq_true, false_and, and_false, forall_const, true_implies, false_implies, implies_true, reduceCtorEq, Int.reduceEq, Int.reduceNe, Int.reduceLT, Int.reduceLE, Int.reduceNeg, Nat.reduceEqDiff, if_true, if_false, reduceIte, Int.reduceMul, Int.reduceAdd, Int.reduceSub]
    refine t_isSeries (fun y0 y1 => ?_) (fun c => ?_)
    · simp only [zrI, zrL, zrR, ne_eq, true_and, and_true, true_or, or_true, not_true_eq_false, not_false_eq_true, false_and, and_false, forall_const, true_implies, false_implies, implies_true, reduceCtorEq, Int.reduceEq, Int.reduceNe, Int.reduceLT, Int.reduceLE, Int.reduceNeg, Nat.reduceEqDiff, if_true, if_false, reduceIte, Int.reduceMul, Int.reduceAdd, Int.reduceSub]
      have key : ∀ (m n : Nat), n + m = 401 → (∀ i, i < n → R x i = R y i) → WP m_PP_same 19 [zr 2, zi x, zi y, zi (n : Int)] [] σ (0, 0) Q := by
        intro m
        induction m with
        | zero =>
          intro n hn hb
          refine r_PP_same_19 ⟨fun _ => q1 x0 x1 y0 y1 _ (Or.inl ⟨rfl, fun i hi => hb i (by omega)⟩), fun c => by omega⟩
        | succ m ih =>
          intro n hn hb
          refine r_PP_same_19 ?_
          simp only [hS, hS.r5 x0 x1, hS.r5 y0 y1, hR x x0 x1 n (by omega), hR y y0 y1 n (by omega), zlcmp_eq, zrI, zrL, zrR, Shp_wI, Shp_wJ, zR_wI, zR_wJ, zJ_wI, zI_wJ, zobj_wI, zobj_wJ, zarr_wI, zarr_wJ, zS_wI, zS_wJ, o_2, a_3, a_4, a_5, o_10, a_11, a_12, o_137, o_138, a_139, o_140, a_141, o_142, a_143, o_146, a_147, a_148, a_149, o_152, a_153, o_154, a_157, o_158, a_159, r_2_0, r_2_1, r_2_2, r_2_3, r_2_4, r_2_5, r_2_6, r_2_7, r_2_8, r_2_9, r_2_10, r_10_0, r_10_1, r_137_0, r_137_1, r_137_2, r_138_0, r_140_0, r_142_0, r_146_0, r_146_1, r_146_2, r_146_3, r_152_0, r_154_0, r_154_1, r_158_0, zrI, zrL, zrR, ne_eq, true_and, and_true, true_or, or_true, not_true_eq_false, not_false_eq_true, false_and, and_false, forall_const, true_implies, false_implies, implies_true, reduceCtorEq, Int.reduceEq, Int.reduceNe, Int.reduceLT, Int.reduceLE, Int.reduceNeg, Nat.reduceEqDiff, if_true, if_false, reduceIte, Int.reduceMul, Int.reduceAdd, Int.reduceSub]
          refine ⟨fun c => by omega, fun _ => ⟨by omega, (hS.isRow x0 x1).arr (by omega) (by omega), by omega, (hS.isRow y0 y1).arr (by omega) (by omega), fun c => ⟨by omega, ?_⟩, fun c => q1 x0 x1 y0 y1 _ (Or.inr ⟨n, rfl, by omega, c, hb⟩)⟩⟩
          have := ih (n + 1) (by omega) (fun i hi => by
            by_cases e : i = n
            · rw [e]; exact c
            · exact hb i (by omega))
          rw [Int.natCast_succ] at this
          exact this
      exact key 401 0 (by omega) (fun i hi => by omega)
    · simp only [zrI, zrL, zrR, ne_eq, true_and, and_true, true_or, or_true, not_true_eq_false, not_false_eq_true, false_and, and_false, forall_const, true_implies, false_implies, implies_true, reduceCtorEq, Int.reduceEq, Int.reduceNe, Int.reduceLT, Int.reduceLE, Int.reduceNeg, Nat.reduceEqDiff, if_true, if_false, reduceIte, Int.reduceMul, Int.reduceAdd, Int.reduceSub]
      exact q0 (by omega)
  · simp only [zrI, zrL, zrR, ne_eq, true_and, and_true, true_or, or_true, not_true_eq_false, not_false_eq_true, false_and, and_false, forall_const, true_implies, false_implies, implies_true, reduceCtorEq, Int.reduceEq, Int.reduceNe, Int.reduceLT, Int.reduceLE, Int.reduceNeg, Nat.reduceEqDiff, if_true, if_false, reduceIte, Int.reduceMul, Int.reduceAdd, Int.reduceSub]
    exact q0 (by omega)
