/-! filling, reference: the call -/
theorem m_filling {Q : ZQ} {σ : ZM} {N : List (Int × List Int)} {S : Int → List Int} {s v : Int} {x : Int64} (h : MI σ S N) (hP : PtS S) (hs : -2147483648 ≤ s ∧ s ≤ 2147483647) (hv : -2147483648 ≤ v ∧ v ≤ 2147483647) (q0 : (s < 0 ∨ 7 < s ∨ 30 < (S s).sum ∨ v < 1 ∨ (S s).sum < v) → Q (zi (-2)) σ)
    (q2 : 0 ≤ s → s ≤ 7 → (S s).sum ≤ 30 → 1 ≤ v → v ≤ (S s).sum → (x.toInt < 0 ∨ (FN (S s) : Int) ≤ x.toInt) → ∀ σ', MI σ' S N → Fz mwf σ σ' → Q (zi (-2)) σ')
    (q1 : 0 ≤ s → s ≤ 7 → (S s).sum ≤ 30 → 1 ≤ v → v ≤ (S s).sum → 0 ≤ x.toInt → x.toInt < (FN (S s) : Int) → ∀ r, FlR ((S s).sum - v + 1).toNat (S s) x.toInt r → ∀ σ', MI σ' S N → Fz mwf σ σ' → Q (zi r) σ') : WP m_Mod_filling 0 [zr 192, zi s, zl x, zu, zi v, zu, zu, zu, zu, zu, zu, zu] [] σ (0, 0) Q := by
  obtain ⟨hS, hN, M, m, hM⟩ := h
  have mi : ∀ τ M', Fr mwq σ τ → MS τ M' → (∀ s, 0 ≤ s → s ≤ 7 → M' s = S s) → MI τ S N := fun τ M' f m' hM' => ⟨f.shp hS, (f.z (P' := fun a _ => mwq a) (fun a j w => w)).mn (by omega) (fun j => by omega) (fun j => by omega) (fun j => by omega) hN, M', m', hM'⟩
  refine r_Mod_filling_0 ?_
  simp only [hS, zrI, zrL, zrR, Shp_wI, Shp_wJ, zR_wI, zR_wJ, zJ_wI, zI_wJ, zobj_wI, zobj_wJ, zarr_wI, zarr_wJ, zS_wI, zS_wJ, o_192, a_193, a_194, a_195, a_196, a_197, a_198, a_199, a_200, a_201, a_202, a_203, a_204, a_205, a_206, a_207, a_208, a_209, a_210, r_192_0, r_192_1, r_192_2, r_192_3, r_192_4, r_192_5, r_192_7, r_192_8, r_192_14, r_192_16, r_192_17, r_192_18, r_192_19, r_192_20, r_192_22, r_192_23, r_192_25, r_192_26, zrI, zrL, zrR, ne_eq, true_and, and_true, true_or, or_true, not_true_eq_false, not_false_eq_true, false_and, and_false, forall_const, true_implies, false_implies, implies_true, reduceCtorEq, Int.reduceEq, Int.reduceNe, Int.reduceLT, Int.reduceLE, Int.reduceNeg, Nat.reduceEqDiff, if_true, if_false, reduceIte, Int.reduceMul, Int.reduceAdd, Int.reduceSub]
  refine t_mSheet hs (fun s0 s1 => ?_) (fun c => by simp only [zrI, zrL, zrR, ne_eq, true_and, and_true, true_or, or_true, not_true_eq_false, not_false_eq_true, false_and, and_false, forall_const, true_implies, false_implies, implies_true, reduceCtorEq, Int.reduceEq, Int.reduceNe, Int.reduceLT, Int.reduceLE, Int.reduceNeg, Nat.reduceEqDiff, if_true, if_false, reduceIte, Int.reduceMul, Int.reduceAdd, Int.reduceSub]; exact q0 (by omega))
  have eM := hM s s0 s1
  have hpS := hP s s0 s1
  have hpM : Pt (M s) := by rw [eM]; exact hpS
  have hlen := hpS.len
  simp only [hS, zrI, zrL, zrR, Shp_wI, Shp_wJ, zR_wI, zR_wJ, zJ_wI, zI_wJ, zobj_wI, zobj_wJ, zarr_wI, zarr_wJ, zS_wI, zS_wJ, o_192, a_193, a_194, a_195, a_196, a_197, a_198, a_199, a_200, a_201, a_202, a_203, a_204, a_205, a_206, a_207, a_208, a_209, a_210, r_192_0, r_192_1, r_192_2, r_192_3, r_192_4, r_192_5, r_192_7, r_192_8, r_192_14, r_192_16, r_192_17, r_192_18, r_192_19, r_192_20, r_192_22, r_192_23, r_192_25, r_192_26, zrI, zrL, zrR, ne_eq, true_and, and_true, true_or, or_true, not_true_eq_false, not_false_eq_true, false_and, and_false, forall_const, true_implies, false_implies, implies_true, reduceCtorEq, Int.reduceEq, Int.reduceNe, Int.reduceLT, Int.reduceLE, Int.reduceNeg, Nat.reduceEqDiff, if_true, if_false, reduceIte, Int.reduceMul, Int.reduceAdd, Int.reduceSub]
  refine t_mSize hS m s0 (by omega) hpM ?_
  rw [eM]
  simp only [hS, zrI, zrL, zrR, Shp_wI, Shp_wJ, zR_wI, zR_wJ, zJ_wI, zI_wJ, zobj_wI, zobj_wJ, zarr_wI, zarr_wJ, zS_wI, zS_wJ, o_192, a_193, a_194, a_195, a_196, a_197, a_198, a_199, a_200, a_201, a_202, a_203, a_204, a_205, a_206, a_207, a_208, a_209, a_210, r_192_0, r_192_1, r_192_2, r_192_3, r_192_4, r_192_5, r_192_7, r_192_8, r_192_14, r_192_16, r_192_17, r_192_18, r_192_19, r_192_20, r_192_22, r_192_23, r_192_25, r_192_26, zrI, zrL, zrR, ne_eq, true_and, and_true, true_or, or_true, not_true_eq_false, not_false_eq_true, false_and, and_false, forall_const, true_implies, false_implies, implies_true, reduceCtorEq, Int.reduceEq, Int.reduceNe, Int.reduceLT, Int.reduceLE, Int.reduceNeg, Nat.reduceEqDiff, if_true, if_false, reduceIte, Int.reduceMul, Int.reduceAdd, Int.reduceSub]
  refine ⟨fun c => q0 (Or.inr (Or.inr (Or.inl c))), fun c => t_mSize hS m s0 (by omega) hpM ?_⟩
  rw [eM]
  simp only [hS, zrI, zrL, zrR, Shp_wI, Shp_wJ, zR_wI, zR_wJ, zJ_wI, zI_wJ, zobj_wI, zobj_wJ, zarr_wI, zarr_wJ, zS_wI, zS_wJ, o_192, a_193, a_194, a_195, a_196, a_197, a_198, a_199, a_200, a_201, a_202, a_203, a_204, a_205, a_206, a_207, a_208, a_209, a_210, r_192_0, r_192_1, r_192_2, r_192_3, r_192_4, r_192_5, r_192_7, r_192_8, r_192_14, r_192_16, r_192_17, r_192_18, r_192_19, r_192_20, r_192_22, r_192_23, r_192_25, r_192_26, zrI, zrL, zrR, ne_eq, true_and, and_true, true_or, or_true, not_true_eq_false, not_false_eq_true, false_and, and_false, forall_const, true_implies, false_implies, implies_true, reduceCtorEq, Int.reduceEq, Int.reduceNe, Int.reduceLT, Int.reduceLE, Int.reduceNeg, Nat.reduceEqDiff, if_true, if_false, reduceIte, Int.reduceMul, Int.reduceAdd, Int.reduceSub]
  have eh : (Int64.ofInt (S s).sum).toInt = (S s).sum := i64 (by omega) (by omega)
  have lt0 := zlcmp_lt (x := x) (y := 0)
  rw [show (0 : Int64).toInt = 0 by rfl] at lt0
  refine t_inI hv (fun a b => ?_) (fun a => ?_)
  · have c1 : (1 : Int) ≤ v := a
    rw [eh] at b
    simp only [hS, zrI, zrL, zrR, Shp_wI, Shp_wJ, zR_wI, zR_wJ, zJ_wI, zI_wJ, zobj_wI, zobj_wJ, zarr_wI, zarr_wJ, zS_wI, zS_wJ, o_192, a_193, a_194, a_195, a_196, a_197, a_198, a_199, a_200, a_201, a_202, a_203, a_204, a_205, a_206, a_207, a_208, a_209, a_210, r_192_0, r_192_1, r_192_2, r_192_3, r_192_4, r_192_5, r_192_7, r_192_8, r_192_14, r_192_16, r_192_17, r_192_18, r_192_19, r_192_20, r_192_22, r_192_23, r_192_25, r_192_26, zrI, zrL, zrR, ne_eq, true_and, and_true, true_or, or_true, not_true_eq_false, not_false_eq_true, false_and, and_false, forall_const, true_implies, false_implies, implies_true, reduceCtorEq, Int.reduceEq, Int.reduceNe, Int.reduceLT, Int.reduceLE, Int.reduceNeg, Nat.reduceEqDiff, if_true, if_false, reduceIte, Int.reduceMul, Int.reduceAdd, Int.reduceSub]
    refine ⟨fun c3 => q2 s0 s1 c c1 b (Or.inl (lt0.mp c3)) σ ⟨hS, hN, M, m, hM⟩ Fz.rf, fun c3 => t_mFillingsOf hS m s0 (by omega) hpM (by rw [eM]; exact c) (fun τ f1 => ?_)⟩
    have xn : 0 ≤ x.toInt := by
      rcases Int.lt_or_le x.toInt 0 with w | w
      · have := lt0.mpr w
        omega
      · exact w
    have hT := f1.shp hS
    have mT := f1.ms (by omega) (by omega) m
    have oF := (FN_ok hpS c).2.2
    have f1' : Fr mwq σ τ := f1.mono (fun a w => by omega)
    have lt := zlcmp_lt (x := x) (y := Int64.ofInt (FN (S s) : Int))
    rw [i64 (x := (FN (S s) : Int)) (by omega) (by omega)] at lt
    rw [eM, fj_FN]
    simp only [hT, zrI, zrL, zrR, Shp_wI, Shp_wJ, zR_wI, zR_wJ, zJ_wI, zI_wJ, zobj_wI, zobj_wJ, zarr_wI, zarr_wJ, zS_wI, zS_wJ, o_192, a_193, a_194, a_195, a_196, a_197, a_198, a_199, a_200, a_201, a_202, a_203, a_204, a_205, a_206, a_207, a_208, a_209, a_210, r_192_0, r_192_1, r_192_2, r_192_3, r_192_4, r_192_5, r_192_7, r_192_8, r_192_14, r_192_16, r_192_17, r_192_18, r_192_19, r_192_20, r_192_22, r_192_23, r_192_25, r_192_26, zrI, zrL, zrR, ne_eq, true_and, and_true, true_or, or_true, not_true_eq_false, not_false_eq_true, false_and, and_false, forall_const, true_implies, false_implies, implies_true, reduceCtorEq, Int.reduceEq, Int.reduceNe, Int.reduceLT, Int.reduceLE, Int.reduceNeg, Nat.reduceEqDiff, if_true, if_false, reduceIte, Int.reduceMul, Int.reduceAdd, Int.reduceSub]
    refine ⟨fun c4 => t_mGive hT mT s0 (by omega) (by omega) (by omega) (fun υ j1 j2 => ?_), fun c4 => q2 s0 s1 c c1 b (Or.inr ?_) τ (mi τ M f1' mT hM) (f1.z (P' := mwf) (fun a j w => by omega))⟩
    · have f2 : Fr mwq σ υ := f1'.tr (j2.mono (fun a w => by omega))
      have hU := f2.shp hS
      have e9 : upS M 9 (M s) 9 = M s := upS_same
      have es : upS M 9 (M s) s = M s := by unfold upS; rw [if_neg (by omega)]
      simp only [hU, zrI, zrL, zrR, Shp_wI, Shp_wJ, zR_wI, zR_wJ, zJ_wI, zI_wJ, zobj_wI, zobj_wJ, zarr_wI, zarr_wJ, zS_wI, zS_wJ, o_192, a_193, a_194, a_195, a_196, a_197, a_198, a_199, a_200, a_201, a_202, a_203, a_204, a_205, a_206, a_207, a_208, a_209, a_210, r_192_0, r_192_1, r_192_2, r_192_3, r_192_4, r_192_5, r_192_7, r_192_8, r_192_14, r_192_16, r_192_17, r_192_18, r_192_19, r_192_20, r_192_22, r_192_23, r_192_25, r_192_26, zrI, zrL, zrR, ne_eq, true_and, and_true, true_or, or_true, not_true_eq_false, not_false_eq_true, false_and, and_false, forall_const, true_implies, false_implies, implies_true, reduceCtorEq, Int.reduceEq, Int.reduceNe, Int.reduceLT, Int.reduceLE, Int.reduceNeg, Nat.reduceEqDiff, if_true, if_false, reduceIte, Int.reduceMul, Int.reduceAdd, Int.reduceSub]
      refine t_mSize hU j1 s0 (by omega) (by rw [es]; exact hpM) ?_
      rw [es, eM]
      simp only [zrI, zrL, zrR, ne_eq, true_and, and_true, true_or, or_true, not_true_eq_false, not_false_eq_true, false_and, and_false, forall_const, true_implies, false_implies, implies_true, reduceCtorEq, Int.reduceEq, Int.reduceNe, Int.reduceLT, Int.reduceLE, Int.reduceNeg, Nat.reduceEqDiff, if_true, if_false, reduceIte, Int.reduceMul, Int.reduceAdd, Int.reduceSub]
      have xe : x = Int64.ofInt x.toInt := (Int64.ofInt_toInt x).symm
      have key := t_mFilling_70 (Q := Q) (σ := σ) (S := S) (v := v) hS c1 ((S s).sum - v).toNat (S s) x.toInt (upS M 9 (M s)) υ (zi s) (zl x) zu zu zu zu (by omega) hpS c j1 (by rw [e9, eM]) (fun u u0 u1 => by unfold upS; rw [if_neg (by omega)]; exact hM u u0 u1) xn (lt.mp c4) f2 (fun r hr σ' M' m' hM' f => q1 s0 s1 c c1 b xn (lt.mp c4) r (by rw [show ((S s).sum - v + 1).toNat = ((S s).sum - v).toNat + 1 by omega]; exact hr) σ' (mi σ' M' f m' hM') (f.z (P' := mwf) (fun a j w => w)))
      rw [← xe] at key
      exact key
    · rcases Int.lt_or_le x.toInt (FN (S s) : Int) with w | w
      · have := lt.mpr w
        omega
      · exact w
  · rw [eh] at a
    have a' : v < (1 : Int) ∨ (S s).sum < v := a
    simp only [zrI, zrL, zrR, ne_eq, true_and, and_true, true_or, or_true, not_true_eq_false, not_false_eq_true, false_and, and_false, forall_const, true_implies, false_implies, implies_true, reduceCtorEq, Int.reduceEq, Int.reduceNe, Int.reduceLT, Int.reduceLE, Int.reduceNeg, Nat.reduceEqDiff, if_true, if_false, reduceIte, Int.reduceMul, Int.reduceAdd, Int.reduceSub]
    exact q0 (by omega)
