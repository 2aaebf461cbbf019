/-! the reference: sheet -/
theorem t_mSheet_73 {Q : ZQ} {σ : ZM} {M : Int → List Int} {s : Int} (hS : Shp σ) (m : MS σ M) (s0 : 0 ≤ s) (s1 : s ≤ 10) (hp : Pt (M s)) (q : ∀ r, Fst (fun i => i < ga (M s) i) r → Q (zi r) σ) : ∀ (k : Nat) (i : Int) (u u' : PV), 0 ≤ i → i + k = 401 → (∀ j, 0 ≤ j → j < i → j < ga (M s) j) → WP m_Mod_sheet 73 [zr 192, zi s, u, zi i, u'] [] σ (0, 0) Q := by
  have hlen := hp.len
  intro k
  induction k with
  | zero =>
    intro i u u' i0 hk hb
    have := hb 400 (by omega) (by omega)
    rw [ga_out (by omega)] at this
    omega
  | succ k ih =>
    intro i u u' i0 hk hb
    refine r_Mod_sheet_73 ?_
    simp only [hS, zrI, zrL, zrR, Shp_wI, Shp_wJ, zR_wI, zR_wJ, zJ_wI, zI_wJ, zobj_wI, zobj_wJ, zarr_wI, zarr_wJ, zS_wI, zS_wJ, o_192, a_193, a_194, a_195, a_196, a_197, a_198, a_199, a_200, a_201, a_202, a_203, a_204, a_205, a_206, a_207, a_208, a_209, a_210, r_192_0, r_192_1, r_192_2, r_192_3, r_192_4, r_192_5, r_192_7, r_192_8, r_192_14, r_192_16, r_192_17, r_192_18, r_192_19, r_192_20, r_192_22, r_192_23, r_192_25, r_192_26, zrI, zrL, zrR, ne_eq, true_and, and_true, true_or, or_true, not_true_eq_false, not_false_eq_true, false_and, and_false, forall_const, true_implies, false_implies, implies_true, reduceCtorEq, Int.reduceEq, Int.reduceNe, Int.reduceLT, Int.reduceLE, Int.reduceNeg, Nat.reduceEqDiff, if_true, if_false, reduceIte, Int.reduceMul, Int.reduceAdd, Int.reduceSub]
    refine t_mAt hS m s0 s1 i0 ?_
    simp only [hS, zrI, zrL, zrR, Shp_wI, Shp_wJ, zR_wI, zR_wJ, zJ_wI, zI_wJ, zobj_wI, zobj_wJ, zarr_wI, zarr_wJ, zS_wI, zS_wJ, o_192, a_193, a_194, a_195, a_196, a_197, a_198, a_199, a_200, a_201, a_202, a_203, a_204, a_205, a_206, a_207, a_208, a_209, a_210, r_192_0, r_192_1, r_192_2, r_192_3, r_192_4, r_192_5, r_192_7, r_192_8, r_192_14, r_192_16, r_192_17, r_192_18, r_192_19, r_192_20, r_192_22, r_192_23, r_192_25, r_192_26, zrI, zrL, zrR, ne_eq, true_and, and_true, true_or, or_true, not_true_eq_false, not_false_eq_true, false_and, and_false, forall_const, true_implies, false_implies, implies_true, reduceCtorEq, Int.reduceEq, Int.reduceNe, Int.reduceLT, Int.reduceLE, Int.reduceNeg, Nat.reduceEqDiff, if_true, if_false, reduceIte, Int.reduceMul, Int.reduceAdd, Int.reduceSub]
    repeat' first | omega | exact Or.inl (by omega) | apply And.intro | refine fun (_ : _ ≤ _) => ?_ | refine fun (_ : _ < _) => ?_ | refine fun (_ : _ = _) => ?_ | refine fun (_ : ¬ (_ = _)) => ?_ | refine fun (_ : _ ∨ _) => ?_
    · exact q i ⟨i0, hb, by show ¬ i < ga (M s) i; omega⟩
    · exact ih (i + 1) _ u' (by omega) (by omega) (fun j j0 j1 => by
        by_cases e : j = i
        · rw [e]; omega
        · exact hb j j0 (by omega))
theorem t_mSheet_114 {Q : ZQ} {σ : ZM} {M : Int → List Int} {s : Int} (hS : Shp σ) (m : MS σ M) (s0 : 0 ≤ s) (s1 : s ≤ 10) (hp : Pt (M s)) (q : Q (zi (sm (fun i => if ga (M s) (i + 1) < ga (M s) i then 1 else 0) (M s).length)) σ) : ∀ (k : Nat) (i : Nat) (u : PV), i + k = (M s).length → WP m_Mod_sheet 114 [zr 192, zi s, u, zi (sm (fun i => if ga (M s) (i + 1) < ga (M s) i then 1 else 0) i), zi (i : Int)] [] σ (0, 0) Q ∧ WP m_Mod_sheet 197 [zr 192, zi s, u, zi (sm (fun i => if ga (M s) (i + 1) < ga (M s) i then 1 else 0) i), zi (i : Int)] [] σ (0, 0) Q := by
  obtain ⟨g1, g2, g3⟩ := m s s0 s1
  have hlen := hp.len
  intro k
  induction k with
  | zero =>
    intro i u hk
    have : i = (M s).length := by omega
    subst this
    constructor
    · refine r_Mod_sheet_114 ?_
      simp only [hS, g1, zrI, zrL, zrR, Shp_wI, Shp_wJ, zR_wI, zR_wJ, zJ_wI, zI_wJ, zobj_wI, zobj_wJ, zarr_wI, zarr_wJ, zS_wI, zS_wJ, o_192, a_193, a_194, a_195, a_196, a_197, a_198, a_199, a_200, a_201, a_202, a_203, a_204, a_205, a_206, a_207, a_208, a_209, a_210, r_192_0, r_192_1, r_192_2, r_192_3, r_192_4, r_192_5, r_192_7, r_192_8, r_192_14, r_192_16, r_192_17, r_192_18, r_192_19, r_192_20, r_192_22, r_192_23, r_192_25, r_192_26, zrI, zrL, zrR, ne_eq, true_and, and_true, true_or, or_true, not_true_eq_false, not_false_eq_true, false_and, and_false, forall_const, true_implies, false_implies, implies_true, reduceCtorEq, Int.reduceEq, Int.reduceNe, Int.reduceLT, Int.reduceLE, Int.reduceNeg, Nat.reduceEqDiff, if_true, if_false, reduceIte, Int.reduceMul, Int.reduceAdd, Int.reduceSub]
      repeat' first | omega | exact Or.inl (by omega) | apply And.intro | refine fun (_ : _ ≤ _) => ?_ | refine fun (_ : _ < _) => ?_ | refine fun (_ : _ = _) => ?_ | refine fun (_ : ¬ (_ = _)) => ?_ | refine fun (_ : _ ∨ _) => ?_
    · refine r_Mod_sheet_197 ?_
      simp only [hS, g1, zrI, zrL, zrR, Shp_wI, Shp_wJ, zR_wI, zR_wJ, zJ_wI, zI_wJ, zobj_wI, zobj_wJ, zarr_wI, zarr_wJ, zS_wI, zS_wJ, o_192, a_193, a_194, a_195, a_196, a_197, a_198, a_199, a_200, a_201, a_202, a_203, a_204, a_205, a_206, a_207, a_208, a_209, a_210, r_192_0, r_192_1, r_192_2, r_192_3, r_192_4, r_192_5, r_192_7, r_192_8, r_192_14, r_192_16, r_192_17, r_192_18, r_192_19, r_192_20, r_192_22, r_192_23, r_192_25, r_192_26, zrI, zrL, zrR, ne_eq, true_and, and_true, true_or, or_true, not_true_eq_false, not_false_eq_true, false_and, and_false, forall_const, true_implies, false_implies, implies_true, reduceCtorEq, Int.reduceEq, Int.reduceNe, Int.reduceLT, Int.reduceLE, Int.reduceNeg, Nat.reduceEqDiff, if_true, if_false, reduceIte, Int.reduceMul, Int.reduceAdd, Int.reduceSub]
      repeat' first | omega | exact Or.inl (by omega) | apply And.intro | refine fun (_ : _ ≤ _) => ?_ | refine fun (_ : _ < _) => ?_ | refine fun (_ : _ = _) => ?_ | refine fun (_ : ¬ (_ = _)) => ?_ | refine fun (_ : _ ∨ _) => ?_
  | succ k ih =>
    intro i u hk
    have hb := sm_bd (f := fun i => if ga (M s) (i + 1) < ga (M s) i then 1 else 0) (B := 1) i (fun j _ _ => by split <;> omega)
    have e1 : sm (fun i => if ga (M s) (i + 1) < ga (M s) i then 1 else 0) (i + 1) = sm (fun i => if ga (M s) (i + 1) < ga (M s) i then 1 else 0) i + (if ga (M s) ((i : Int) + 1) < ga (M s) i then 1 else 0) := rfl
    have hd := hp.2.2 (i : Int) ((i : Int) + 1) (by omega) (by omega)
    have ih := ih (i + 1) (zkill u) (by omega)
    rw [e1, Int.natCast_succ] at ih
    generalize sm (fun i => if ga (M s) (i + 1) < ga (M s) i then 1 else 0) i = z at ih hb ⊢
    constructor
    · refine r_Mod_sheet_114 ?_
      simp only [hS, g1, zrI, zrL, zrR, Shp_wI, Shp_wJ, zR_wI, zR_wJ, zJ_wI, zI_wJ, zobj_wI, zobj_wJ, zarr_wI, zarr_wJ, zS_wI, zS_wJ, o_192, a_193, a_194, a_195, a_196, a_197, a_198, a_199, a_200, a_201, a_202, a_203, a_204, a_205, a_206, a_207, a_208, a_209, a_210, r_192_0, r_192_1, r_192_2, r_192_3, r_192_4, r_192_5, r_192_7, r_192_8, r_192_14, r_192_16, r_192_17, r_192_18, r_192_19, r_192_20, r_192_22, r_192_23, r_192_25, r_192_26, zrI, zrL, zrR, ne_eq, true_and, and_true, true_or, or_true, not_true_eq_false, not_false_eq_true, false_and, and_false, forall_const, true_implies, false_implies, implies_true, reduceCtorEq, Int.reduceEq, Int.reduceNe, Int.reduceLT, Int.reduceLE, Int.reduceNeg, Nat.reduceEqDiff, if_true, if_false, reduceIte, Int.reduceMul, Int.reduceAdd, Int.reduceSub]
      repeat' first | omega | exact Or.inl (by omega) | apply And.intro | refine fun (_ : _ ≤ _) => ?_ | refine fun (_ : _ < _) => ?_ | refine fun (_ : _ = _) => ?_ | refine fun (_ : ¬ (_ = _)) => ?_ | refine fun (_ : _ ∨ _) => ?_
      refine t_mAt hS m s0 s1 (by omega) ?_
      simp only [hS, zrI, zrL, zrR, Shp_wI, Shp_wJ, zR_wI, zR_wJ, zJ_wI, zI_wJ, zobj_wI, zobj_wJ, zarr_wI, zarr_wJ, zS_wI, zS_wJ, o_192, a_193, a_194, a_195, a_196, a_197, a_198, a_199, a_200, a_201, a_202, a_203, a_204, a_205, a_206, a_207, a_208, a_209, a_210, r_192_0, r_192_1, r_192_2, r_192_3, r_192_4, r_192_5, r_192_7, r_192_8, r_192_14, r_192_16, r_192_17, r_192_18, r_192_19, r_192_20, r_192_22, r_192_23, r_192_25, r_192_26, zrI, zrL, zrR, ne_eq, true_and, and_true, true_or, or_true, not_true_eq_false, not_false_eq_true, false_and, and_false, forall_const, true_implies, false_implies, implies_true, reduceCtorEq, Int.reduceEq, Int.reduceNe, Int.reduceLT, Int.reduceLE, Int.reduceNeg, Nat.reduceEqDiff, if_true, if_false, reduceIte, Int.reduceMul, Int.reduceAdd, Int.reduceSub]
      repeat' first | omega | exact Or.inl (by omega) | apply And.intro | refine fun (_ : _ ≤ _) => ?_ | refine fun (_ : _ < _) => ?_ | refine fun (_ : _ = _) => ?_ | refine fun (_ : ¬ (_ = _)) => ?_ | refine fun (_ : _ ∨ _) => ?_
      refine t_mAt hS m s0 s1 (by omega) ?_
      simp only [hS, zrI, zrL, zrR, Shp_wI, Shp_wJ, zR_wI, zR_wJ, zJ_wI, zI_wJ, zobj_wI, zobj_wJ, zarr_wI, zarr_wJ, zS_wI, zS_wJ, o_192, a_193, a_194, a_195, a_196, a_197, a_198, a_199, a_200, a_201, a_202, a_203, a_204, a_205, a_206, a_207, a_208, a_209, a_210, r_192_0, r_192_1, r_192_2, r_192_3, r_192_4, r_192_5, r_192_7, r_192_8, r_192_14, r_192_16, r_192_17, r_192_18, r_192_19, r_192_20, r_192_22, r_192_23, r_192_25, r_192_26, zrI, zrL, zrR, ne_eq, true_and, and_true, true_or, or_true, not_true_eq_false, not_false_eq_true, false_and, and_false, forall_const, true_implies, false_implies, implies_true, reduceCtorEq, Int.reduceEq, Int.reduceNe, Int.reduceLT, Int.reduceLE, Int.reduceNeg, Nat.reduceEqDiff, if_true, if_false, reduceIte, Int.reduceMul, Int.reduceAdd, Int.reduceSub]
      repeat' first | omega | exact Or.inl (by omega) | apply And.intro | refine fun (_ : _ ≤ _) => ?_ | refine fun (_ : _ < _) => ?_ | refine fun (_ : _ = _) => ?_ | refine fun (_ : ¬ (_ = _)) => ?_ | refine fun (_ : _ ∨ _) => ?_
      · rw [if_neg (by omega)] at ih; exact ih.1
      · rw [if_pos (by omega)] at ih; exact ih.1
    · refine r_Mod_sheet_197 ?_
      simp only [hS, g1, zrI, zrL, zrR, Shp_wI, Shp_wJ, zR_wI, zR_wJ, zJ_wI, zI_wJ, zobj_wI, zobj_wJ, zarr_wI, zarr_wJ, zS_wI, zS_wJ, o_192, a_193, a_194, a_195, a_196, a_197, a_198, a_199, a_200, a_201, a_202, a_203, a_204, a_205, a_206, a_207, a_208, a_209, a_210, r_192_0, r_192_1, r_192_2, r_192_3, r_192_4, r_192_5, r_192_7, r_192_8, r_192_14, r_192_16, r_192_17, r_192_18, r_192_19, r_192_20, r_192_22, r_192_23, r_192_25, r_192_26, zrI, zrL, zrR, ne_eq, true_and, and_true, true_or, or_true, not_true_eq_false, not_false_eq_true, false_and, and_false, forall_const, true_implies, false_implies, implies_true, reduceCtorEq, Int.reduceEq, Int.reduceNe, Int.reduceLT, Int.reduceLE, Int.reduceNeg, Nat.reduceEqDiff, if_true, if_false, reduceIte, Int.reduceMul, Int.reduceAdd, Int.reduceSub]
      repeat' first | omega | exact Or.inl (by omega) | apply And.intro | refine fun (_ : _ ≤ _) => ?_ | refine fun (_ : _ < _) => ?_ | refine fun (_ : _ = _) => ?_ | refine fun (_ : ¬ (_ = _)) => ?_ | refine fun (_ : _ ∨ _) => ?_
      refine t_mAt hS m s0 s1 (by omega) ?_
      simp only [hS, zrI, zrL, zrR, Shp_wI, Shp_wJ, zR_wI, zR_wJ, zJ_wI, zI_wJ, zobj_wI, zobj_wJ, zarr_wI, zarr_wJ, zS_wI, zS_wJ, o_192, a_193, a_194, a_195, a_196, a_197, a_198, a_199, a_200, a_201, a_202, a_203, a_204, a_205, a_206, a_207, a_208, a_209, a_210, r_192_0, r_192_1, r_192_2, r_192_3, r_192_4, r_192_5, r_192_7, r_192_8, r_192_14, r_192_16, r_192_17, r_192_18, r_192_19, r_192_20, r_192_22, r_192_23, r_192_25, r_192_26, zrI, zrL, zrR, ne_eq, true_and, and_true, true_or, or_true, not_true_eq_false, not_false_eq_true, false_and, and_false, forall_const, true_implies, false_implies, implies_true, reduceCtorEq, Int.reduceEq, Int.reduceNe, Int.reduceLT, Int.reduceLE, Int.reduceNeg, Nat.reduceEqDiff, if_true, if_false, reduceIte, Int.reduceMul, Int.reduceAdd, Int.reduceSub]
      repeat' first | omega | exact Or.inl (by omega) | apply And.intro | refine fun (_ : _ ≤ _) => ?_ | refine fun (_ : _ < _) => ?_ | refine fun (_ : _ = _) => ?_ | refine fun (_ : ¬ (_ = _)) => ?_ | refine fun (_ : _ ∨ _) => ?_
      refine t_mAt hS m s0 s1 (by omega) ?_
      simp only [hS, zrI, zrL, zrR, Shp_wI, Shp_wJ, zR_wI, zR_wJ, zJ_wI, zI_wJ, zobj_wI, zobj_wJ, zarr_wI, zarr_wJ, zS_wI, zS_wJ, o_192, a_193, a_194, a_195, a_196, a_197, a_198, a_199, a_200, a_201, a_202, a_203, a_204, a_205, a_206, a_207, a_208, a_209, a_210, r_192_0, r_192_1, r_192_2, r_192_3, r_192_4, r_192_5, r_192_7, r_192_8, r_192_14, r_192_16, r_192_17, r_192_18, r_192_19, r_192_20, r_192_22, r_192_23, r_192_25, r_192_26, zrI, zrL, zrR, ne_eq, true_and, and_true, true_or, or_true, not_true_eq_false, not_false_eq_true, false_and, and_false, forall_const, true_implies, false_implies, implies_true, reduceCtorEq, Int.reduceEq, Int.reduceNe, Int.reduceLT, Int.reduceLE, Int.reduceNeg, Nat.reduceEqDiff, if_true, if_false, reduceIte, Int.reduceMul, Int.reduceAdd, Int.reduceSub]
      repeat' first | omega | exact Or.inl (by omega) | apply And.intro | refine fun (_ : _ ≤ _) => ?_ | refine fun (_ : _ < _) => ?_ | refine fun (_ : _ = _) => ?_ | refine fun (_ : ¬ (_ = _)) => ?_ | refine fun (_ : _ ∨ _) => ?_
      · rw [if_neg (by omega)] at ih; exact ih.2
      · rw [if_pos (by omega)] at ih; exact ih.2
theorem t_mSheet_163 {Q : ZQ} {σ : ZM} {M : Int → List Int} {s : Int} (hS : Shp σ) (m : MS σ M) (s0 : 0 ≤ s) (s1 : s ≤ 10) (hp : Pt (M s)) (q : Q (zi (sm (fun i => ga (M s) i % 2) (M s).length)) σ) : ∀ (k : Nat) (i : Nat) (u : PV), i + k = (M s).length → WP m_Mod_sheet 163 [zr 192, zi s, u, zi (sm (fun i => ga (M s) i % 2) i), zi (i : Int)] [] σ (0, 0) Q := by
  obtain ⟨g1, g2, g3⟩ := m s s0 s1
  have hlen := hp.len
  intro k
  induction k with
  | zero =>
    intro i u hk
    have : i = (M s).length := by omega
    subst this
    refine r_Mod_sheet_163 ?_
    simp only [hS, g1, zrI, zrL, zrR, Shp_wI, Shp_wJ, zR_wI, zR_wJ, zJ_wI, zI_wJ, zobj_wI, zobj_wJ, zarr_wI, zarr_wJ, zS_wI, zS_wJ, o_192, a_193, a_194, a_195, a_196, a_197, a_198, a_199, a_200, a_201, a_202, a_203, a_204, a_205, a_206, a_207, a_208, a_209, a_210, r_192_0, r_192_1, r_192_2, r_192_3, r_192_4, r_192_5, r_192_7, r_192_8, r_192_14, r_192_16, r_192_17, r_192_18, r_192_19, r_192_20, r_192_22, r_192_23, r_192_25, r_192_26, zrI, zrL, zrR, ne_eq, true_and, and_true, true_or, or_true, not_true_eq_false, not_false_eq_true, false_and, and_false, forall_const, true_implies, false_implies, implies_true, reduceCtorEq, Int.reduceEq, Int.reduceNe, Int.reduceLT, Int.reduceLE, Int.reduceNeg, Nat.reduceEqDiff, if_true, if_false, reduceIte, Int.reduceMul, Int.reduceAdd, Int.reduceSub]
    repeat' first | omega | exact Or.inl (by omega) | apply And.intro | refine fun (_ : _ ≤ _) => ?_ | refine fun (_ : _ < _) => ?_ | refine fun (_ : _ = _) => ?_ | refine fun (_ : ¬ (_ = _)) => ?_ | refine fun (_ : _ ∨ _) => ?_
  | succ k ih =>
    intro i u hk
    have hb := sm_bd (f := fun i => ga (M s) i % 2) (B := 1) i (fun j _ _ => by omega)
    have e1 : sm (fun i => ga (M s) i % 2) (i + 1) = sm (fun i => ga (M s) i % 2) i + ga (M s) i % 2 := rfl
    have hr := hp.rng (i : Int)
    have ih := ih (i + 1) (zkill u) (by omega)
    rw [e1, Int.natCast_succ] at ih
    refine r_Mod_sheet_163 ?_
    simp only [hS, g1, zrI, zrL, zrR, Shp_wI, Shp_wJ, zR_wI, zR_wJ, zJ_wI, zI_wJ, zobj_wI, zobj_wJ, zarr_wI, zarr_wJ, zS_wI, zS_wJ, o_192, a_193, a_194, a_195, a_196, a_197, a_198, a_199, a_200, a_201, a_202, a_203, a_204, a_205, a_206, a_207, a_208, a_209, a_210, r_192_0, r_192_1, r_192_2, r_192_3, r_192_4, r_192_5, r_192_7, r_192_8, r_192_14, r_192_16, r_192_17, r_192_18, r_192_19, r_192_20, r_192_22, r_192_23, r_192_25, r_192_26, zrI, zrL, zrR, ne_eq, true_and, and_true, true_or, or_true, not_true_eq_false, not_false_eq_true, false_and, and_false, forall_const, true_implies, false_implies, implies_true, reduceCtorEq, Int.reduceEq, Int.reduceNe, Int.reduceLT, Int.reduceLE, Int.reduceNeg, Nat.reduceEqDiff, if_true, if_false, reduceIte, Int.reduceMul, Int.reduceAdd, Int.reduceSub]
    repeat' first | omega | exact Or.inl (by omega) | apply And.intro | refine fun (_ : _ ≤ _) => ?_ | refine fun (_ : _ < _) => ?_ | refine fun (_ : _ = _) => ?_ | refine fun (_ : ¬ (_ = _)) => ?_ | refine fun (_ : _ ∨ _) => ?_
    refine t_mAt hS m s0 s1 (by omega) ?_
    simp only [hS, Int.tdiv_eq_ediv_of_nonneg hr.1, Int.tmod_eq_emod_of_nonneg hr.1, zrI, zrL, zrR, Shp_wI, Shp_wJ, zR_wI, zR_wJ, zJ_wI, zI_wJ, zobj_wI, zobj_wJ, zarr_wI, zarr_wJ, zS_wI, zS_wJ, o_192, a_193, a_194, a_195, a_196, a_197, a_198, a_199, a_200, a_201, a_202, a_203, a_204, a_205, a_206, a_207, a_208, a_209, a_210, r_192_0, r_192_1, r_192_2, r_192_3, r_192_4, r_192_5, r_192_7, r_192_8, r_192_14, r_192_16, r_192_17, r_192_18, r_192_19, r_192_20, r_192_22, r_192_23, r_192_25, r_192_26, zrI, zrL, zrR, ne_eq, true_and, and_true, true_or, or_true, not_true_eq_false, not_false_eq_true, false_and, and_false, forall_const, true_implies, false_implies, implies_true, reduceCtorEq, Int.reduceEq, Int.reduceNe, Int.reduceLT, Int.reduceLE, Int.reduceNeg, Nat.reduceEqDiff, if_true, if_false, reduceIte, Int.reduceMul, Int.reduceAdd, Int.reduceSub]
    repeat' first | omega | exact Or.inl (by omega) | apply And.intro | refine fun (_ : _ ≤ _) => ?_ | refine fun (_ : _ < _) => ?_ | refine fun (_ : _ = _) => ?_ | refine fun (_ : ¬ (_ = _)) => ?_ | refine fun (_ : _ ∨ _) => ?_
theorem t_mRankOf {Q : ZQ} {σ : ZM} {M : Int → List Int} {s : Int} (hS : Shp σ) (m : MS σ M) (s0 : 0 ≤ s) (s1 : s ≤ 10) (hp : Pt (M s)) (q : Q (zi (ga (M s) 0 - ((M s).length : Int))) σ) : WP m_Mod_rankOf 0 [zr 192, zi s] [] σ (0, 0) Q := by
  obtain ⟨g1, g2, g3⟩ := m s s0 s1
  have hlen := hp.len
  have hr := hp.rng 0
  refine r_Mod_rankOf_0 ?_
  simp only [hS, g1, zrI, zrL, zrR, Shp_wI, Shp_wJ, zR_wI, zR_wJ, zJ_wI, zI_wJ, zobj_wI, zobj_wJ, zarr_wI, zarr_wJ, zS_wI, zS_wJ, o_192, a_193, a_194, a_195, a_196, a_197, a_198, a_199, a_200, a_201, a_202, a_203, a_204, a_205, a_206, a_207, a_208, a_209, a_210, r_192_0, r_192_1, r_192_2, r_192_3, r_192_4, r_192_5, r_192_7, r_192_8, r_192_14, r_192_16, r_192_17, r_192_18, r_192_19, r_192_20, r_192_22, r_192_23, r_192_25, r_192_26, zrI, zrL, zrR, ne_eq, true_and, and_true, true_or, or_true, not_true_eq_false, not_false_eq_true, false_and, and_false, forall_const, true_implies, false_implies, implies_true, reduceCtorEq, Int.reduceEq, Int.reduceNe, Int.reduceLT, Int.reduceLE, Int.reduceNeg, Nat.reduceEqDiff, if_true, if_false, reduceIte, Int.reduceMul, Int.reduceAdd, Int.reduceSub]
  repeat' first | omega | exact Or.inl (by omega) | apply And.intro | refine fun (_ : _ ≤ _) => ?_ | refine fun (_ : _ < _) => ?_ | refine fun (_ : _ = _) => ?_ | refine fun (_ : ¬ (_ = _)) => ?_ | refine fun (_ : _ ∨ _) => ?_
  · refine t_mAt hS m s0 s1 (by omega) ?_
    simp only [hS, g1, zrI, zrL, zrR, Shp_wI, Shp_wJ, zR_wI, zR_wJ, zJ_wI, zI_wJ, zobj_wI, zobj_wJ, zarr_wI, zarr_wJ, zS_wI, zS_wJ, o_192, a_193, a_194, a_195, a_196, a_197, a_198, a_199, a_200, a_201, a_202, a_203, a_204, a_205, a_206, a_207, a_208, a_209, a_210, r_192_0, r_192_1, r_192_2, r_192_3, r_192_4, r_192_5, r_192_7, r_192_8, r_192_14, r_192_16, r_192_17, r_192_18, r_192_19, r_192_20, r_192_22, r_192_23, r_192_25, r_192_26, zrI, zrL, zrR, ne_eq, true_and, and_true, true_or, or_true, not_true_eq_false, not_false_eq_true, false_and, and_false, forall_const, true_implies, false_implies, implies_true, reduceCtorEq, Int.reduceEq, Int.reduceNe, Int.reduceLT, Int.reduceLE, Int.reduceNeg, Nat.reduceEqDiff, if_true, if_false, reduceIte, Int.reduceMul, Int.reduceAdd, Int.reduceSub]
    repeat' first | omega | exact Or.inl (by omega) | apply And.intro | refine fun (_ : _ ≤ _) => ?_ | refine fun (_ : _ < _) => ?_ | refine fun (_ : _ = _) => ?_ | refine fun (_ : ¬ (_ = _)) => ?_ | refine fun (_ : _ ∨ _) => ?_
  · rw [ga_out (by omega), show ((M s).length : Int) = 0 by omega] at q
    exact q
theorem t_mCrank_54 {Q : ZQ} {σ : ZM} {M : Int → List Int} {s w : Int} (hS : Shp σ) (m : MS σ M) (s0 : 0 ≤ s) (s1 : s ≤ 10) (hp : Pt (M s)) (w0 : 0 ≤ w) (w1 : w ≤ 400) (q : Q (zi (sm (fun i => if w < ga (M s) i then 1 else 0) (M s).length - w)) σ) : ∀ (k : Nat) (i : Nat), i + k = (M s).length → WP m_Mod_crankOf 54 [zr 192, zi s, zi w, zi (sm (fun i => if w < ga (M s) i then 1 else 0) i), zi (i : Int)] [] σ (0, 0) Q := by
  obtain ⟨g1, g2, g3⟩ := m s s0 s1
  have hlen := hp.len
  intro k
  induction k with
  | zero =>
    intro i hk
    have : i = (M s).length := by omega
    subst this
    have hb := sm_bd (f := fun i => if w < ga (M s) i then 1 else 0) (B := 1) (M s).length (fun j _ _ => by split <;> omega)
    refine r_Mod_crankOf_54 ?_
    simp only [hS, g1, zrI, zrL, zrR, Shp_wI, Shp_wJ, zR_wI, zR_wJ, zJ_wI, zI_wJ, zobj_wI, zobj_wJ, zarr_wI, zarr_wJ, zS_wI, zS_wJ, o_192, a_193, a_194, a_195, a_196, a_197, a_198, a_199, a_200, a_201, a_202, a_203, a_204, a_205, a_206, a_207, a_208, a_209, a_210, r_192_0, r_192_1, r_192_2, r_192_3, r_192_4, r_192_5, r_192_7, r_192_8, r_192_14, r_192_16, r_192_17, r_192_18, r_192_19, r_192_20, r_192_22, r_192_23, r_192_25, r_192_26, zrI, zrL, zrR, ne_eq, true_and, and_true, true_or, or_true, not_true_eq_false, not_false_eq_true, false_and, and_false, forall_const, true_implies, false_implies, implies_true, reduceCtorEq, Int.reduceEq, Int.reduceNe, Int.reduceLT, Int.reduceLE, Int.reduceNeg, Nat.reduceEqDiff, if_true, if_false, reduceIte, Int.reduceMul, Int.reduceAdd, Int.reduceSub]
    repeat' first | omega | exact Or.inl (by omega) | apply And.intro | refine fun (_ : _ ≤ _) => ?_ | refine fun (_ : _ < _) => ?_ | refine fun (_ : _ = _) => ?_ | refine fun (_ : ¬ (_ = _)) => ?_ | refine fun (_ : _ ∨ _) => ?_
  | succ k ih =>
    intro i hk
    have hb := sm_bd (f := fun i => if w < ga (M s) i then 1 else 0) (B := 1) i (fun j _ _ => by split <;> omega)
    have e1 : sm (fun i => if w < ga (M s) i then 1 else 0) (i + 1) = sm (fun i => if w < ga (M s) i then 1 else 0) i + (if w < ga (M s) (i : Int) then 1 else 0) := rfl
    have ih := ih (i + 1) (by omega)
    rw [e1, Int.natCast_succ] at ih
    generalize sm (fun i => if w < ga (M s) i then 1 else 0) i = z at ih hb ⊢
    refine r_Mod_crankOf_54 ?_
    simp only [hS, g1, zrI, zrL, zrR, Shp_wI, Shp_wJ, zR_wI, zR_wJ, zJ_wI, zI_wJ, zobj_wI, zobj_wJ, zarr_wI, zarr_wJ, zS_wI, zS_wJ, o_192, a_193, a_194, a_195, a_196, a_197, a_198, a_199, a_200, a_201, a_202, a_203, a_204, a_205, a_206, a_207, a_208, a_209, a_210, r_192_0, r_192_1, r_192_2, r_192_3, r_192_4, r_192_5, r_192_7, r_192_8, r_192_14, r_192_16, r_192_17, r_192_18, r_192_19, r_192_20, r_192_22, r_192_23, r_192_25, r_192_26, zrI, zrL, zrR, ne_eq, true_and, and_true, true_or, or_true, not_true_eq_false, not_false_eq_true, false_and, and_false, forall_const, true_implies, false_implies, implies_true, reduceCtorEq, Int.reduceEq, Int.reduceNe, Int.reduceLT, Int.reduceLE, Int.reduceNeg, Nat.reduceEqDiff, if_true, if_false, reduceIte, Int.reduceMul, Int.reduceAdd, Int.reduceSub]
    repeat' first | omega | exact Or.inl (by omega) | apply And.intro | refine fun (_ : _ ≤ _) => ?_ | refine fun (_ : _ < _) => ?_ | refine fun (_ : _ = _) => ?_ | refine fun (_ : ¬ (_ = _)) => ?_ | refine fun (_ : _ ∨ _) => ?_
    refine t_mAt hS m s0 s1 (by omega) ?_
    simp only [hS, zrI, zrL, zrR, Shp_wI, Shp_wJ, zR_wI, zR_wJ, zJ_wI, zI_wJ, zobj_wI, zobj_wJ, zarr_wI, zarr_wJ, zS_wI, zS_wJ, o_192, a_193, a_194, a_195, a_196, a_197, a_198, a_199, a_200, a_201, a_202, a_203, a_204, a_205, a_206, a_207, a_208, a_209, a_210, r_192_0, r_192_1, r_192_2, r_192_3, r_192_4, r_192_5, r_192_7, r_192_8, r_192_14, r_192_16, r_192_17, r_192_18, r_192_19, r_192_20, r_192_22, r_192_23, r_192_25, r_192_26, zrI, zrL, zrR, ne_eq, true_and, and_true, true_or, or_true, not_true_eq_false, not_false_eq_true, false_and, and_false, forall_const, true_implies, false_implies, implies_true, reduceCtorEq, Int.reduceEq, Int.reduceNe, Int.reduceLT, Int.reduceLE, Int.reduceNeg, Nat.reduceEqDiff, if_true, if_false, reduceIte, Int.reduceMul, Int.reduceAdd, Int.reduceSub]
    repeat' first | omega | exact Or.inl (by omega) | apply And.intro | refine fun (_ : _ ≤ _) => ?_ | refine fun (_ : _ < _) => ?_ | refine fun (_ : _ = _) => ?_ | refine fun (_ : ¬ (_ = _)) => ?_ | refine fun (_ : _ ∨ _) => ?_
    · rw [if_neg (by omega)] at ih; exact ih
    · rw [if_pos (by omega)] at ih; exact ih
theorem sm_len {l : List Int} {w : Int} (hp : Pt l) (w0 : 0 ≤ w) : sm (fun i => if w < ga l i then 1 else 0) l.length = colN l w := by
  obtain ⟨h1, h2⟩ := colN_isFst hp w0
  rw [sm_fst (P := fun k => w < ga l k) h1.1 h1.2.1 (fun k hk c => h1.2.2 (by have := hp.2.2 _ k h1.1 hk; show w < ga l (colN l w); omega)), if_pos h2]
theorem t_mCrank {Q : ZQ} {σ : ZM} {M : Int → List Int} {s : Int} (hS : Shp σ) (m : MS σ M) (s0 : 0 ≤ s) (s1 : s ≤ 10) (hp : Pt (M s)) (q : Q (zi (crkN (M s))) σ) : WP m_Mod_crankOf 0 [zr 192, zi s, zu, zu, zu] [] σ (0, 0) Q := by
  obtain ⟨g1, g2, g3⟩ := m s s0 s1
  have hlen := hp.len
  have key : ∀ (k : Nat) (i : Nat) (u : PV), i + k = (M s).length → WP m_Mod_crankOf 4 [zr 192, zi s, zi (sm (fun i => if ga (M s) i = 1 then 1 else 0) i), zi (i : Int), u] [] σ (0, 0) Q := by
    intro k
    induction k with
    | zero =>
      intro i u hk
      have : i = (M s).length := by omega
      subst this
      have hb : 0 ≤ onesN (M s) ∧ onesN (M s) ≤ ((M s).length : Int) := onesN_bd (M s) (M s).length
      refine r_Mod_crankOf_4 ?_
      show _ ∧ _
      change _ ∧ _ ∧ (_ → ((onesN (M s) ≠ 0 → _) ∧ (onesN (M s) = 0 → _))) ∧ _
      simp only [hS, g1, zrI, zrL, zrR, Shp_wI, Shp_wJ, zR_wI, zR_wJ, zJ_wI, zI_wJ, zobj_wI, zobj_wJ, zarr_wI, zarr_wJ, zS_wI, zS_wJ, o_192, a_193, a_194, a_195, a_196, a_197, a_198, a_199, a_200, a_201, a_202, a_203, a_204, a_205, a_206, a_207, a_208, a_209, a_210, r_192_0, r_192_1, r_192_2, r_192_3, r_192_4, r_192_5, r_192_7, r_192_8, r_192_14, r_192_16, r_192_17, r_192_18, r_192_19, r_192_20, r_192_22, r_192_23, r_192_25, r_192_26, zrI, zrL, zrR, ne_eq, true_and, and_true, true_or, or_true, not_true_eq_false, not_false_eq_true, false_and, and_false, forall_const, true_implies, false_implies, implies_true, reduceCtorEq, Int.reduceEq, Int.reduceNe, Int.reduceLT, Int.reduceLE, Int.reduceNeg, Nat.reduceEqDiff, if_true, if_false, reduceIte, Int.reduceMul, Int.reduceAdd, Int.reduceSub]
      repeat' first | omega | exact Or.inl (by omega) | apply And.intro | refine fun (_ : _ ≤ _) => ?_ | refine fun (_ : _ < _) => ?_ | refine fun (_ : _ = _) => ?_ | refine fun (_ : ¬ (_ = _)) => ?_ | refine fun (_ : _ ∨ _) => ?_
      · refine t_mCrank_54 hS m s0 s1 hp hb.1 (by omega) ?_ (M s).length 0 (by omega)
        unfold crkN at q
        rw [if_neg (by omega)] at q
        rw [sm_len hp hb.1]
        exact q
      · refine t_mAt hS m s0 s1 (by omega) ?_
        unfold crkN at q
        rw [if_pos (by omega)] at q
        exact q
    | succ k ih =>
      intro i u hk
      have hb := onesN_bd (M s) i
      have ih := ih (i + 1) u (by omega)
      have e1 : sm (fun i => if ga (M s) i = 1 then 1 else 0) (i + 1) = sm (fun i => if ga (M s) i = 1 then 1 else 0) i + (if ga (M s) (i : Int) = 1 then 1 else 0) := rfl
      rw [e1, Int.natCast_succ] at ih
      generalize sm (fun i => if ga (M s) i = 1 then 1 else 0) i = z at ih hb ⊢
      refine r_Mod_crankOf_4 ?_
      simp only [hS, g1, zrI, zrL, zrR, Shp_wI, Shp_wJ, zR_wI, zR_wJ, zJ_wI, zI_wJ, zobj_wI, zobj_wJ, zarr_wI, zarr_wJ, zS_wI, zS_wJ, o_192, a_193, a_194, a_195, a_196, a_197, a_198, a_199, a_200, a_201, a_202, a_203, a_204, a_205, a_206, a_207, a_208, a_209, a_210, r_192_0, r_192_1, r_192_2, r_192_3, r_192_4, r_192_5, r_192_7, r_192_8, r_192_14, r_192_16, r_192_17, r_192_18, r_192_19, r_192_20, r_192_22, r_192_23, r_192_25, r_192_26, zrI, zrL, zrR, ne_eq, true_and, and_true, true_or, or_true, not_true_eq_false, not_false_eq_true, false_and, and_false, forall_const, true_implies, false_implies, implies_true, reduceCtorEq, Int.reduceEq, Int.reduceNe, Int.reduceLT, Int.reduceLE, Int.reduceNeg, Nat.reduceEqDiff, if_true, if_false, reduceIte, Int.reduceMul, Int.reduceAdd, Int.reduceSub]
      repeat' first | omega | exact Or.inl (by omega) | apply And.intro | refine fun (_ : _ ≤ _) => ?_ | refine fun (_ : _ < _) => ?_ | refine fun (_ : _ = _) => ?_ | refine fun (_ : ¬ (_ = _)) => ?_ | refine fun (_ : _ ∨ _) => ?_
      refine t_mAt hS m s0 s1 (by omega) ?_
      simp only [hS, zrI, zrL, zrR, Shp_wI, Shp_wJ, zR_wI, zR_wJ, zJ_wI, zI_wJ, zobj_wI, zobj_wJ, zarr_wI, zarr_wJ, zS_wI, zS_wJ, o_192, a_193, a_194, a_195, a_196, a_197, a_198, a_199, a_200, a_201, a_202, a_203, a_204, a_205, a_206, a_207, a_208, a_209, a_210, r_192_0, r_192_1, r_192_2, r_192_3, r_192_4, r_192_5, r_192_7, r_192_8, r_192_14, r_192_16, r_192_17, r_192_18, r_192_19, r_192_20, r_192_22, r_192_23, r_192_25, r_192_26, zrI, zrL, zrR, ne_eq, true_and, and_true, true_or, or_true, not_true_eq_false, not_false_eq_true, false_and, and_false, forall_const, true_implies, false_implies, implies_true, reduceCtorEq, Int.reduceEq, Int.reduceNe, Int.reduceLT, Int.reduceLE, Int.reduceNeg, Nat.reduceEqDiff, if_true, if_false, reduceIte, Int.reduceMul, Int.reduceAdd, Int.reduceSub]
      repeat' first | omega | exact Or.inl (by omega) | apply And.intro | refine fun (_ : _ ≤ _) => ?_ | refine fun (_ : _ < _) => ?_ | refine fun (_ : _ = _) => ?_ | refine fun (_ : ¬ (_ = _)) => ?_ | refine fun (_ : _ ∨ _) => ?_
      · rw [if_neg (by omega)] at ih; exact ih
      · rw [if_pos (by omega)] at ih; exact ih
  exact r_Mod_crankOf_0 (key (M s).length 0 _ (by omega))
theorem m_sheet {Q : ZQ} {σ : ZM} {N : List (Int × List Int)} {S : Int → List Int} {s w : Int} (h : MI σ S N) (hp : PtS S) (hs : -2147483648 ≤ s ∧ s ≤ 2147483647) (hw : -2147483648 ≤ w ∧ w ≤ 2147483647)
    (q0 : (s < 0 ∨ 7 < s) → Q (zi (-2)) σ) (q1 : 0 ≤ s → s ≤ 7 → ∀ r, shA' (S s) w r → Q (zi r) σ) : WP m_Mod_sheet 0 [zr 192, zi s, zi w, zu, zu] [] σ (0, 0) Q := by
  obtain ⟨hS, hn, M, m, hM⟩ := h
  refine r_Mod_sheet_0 ?_
  simp only [hS, zrI, zrL, zrR, Shp_wI, Shp_wJ, zR_wI, zR_wJ, zJ_wI, zI_wJ, zobj_wI, zobj_wJ, zarr_wI, zarr_wJ, zS_wI, zS_wJ, o_192, a_193, a_194, a_195, a_196, a_197, a_198, a_199, a_200, a_201, a_202, a_203, a_204, a_205, a_206, a_207, a_208, a_209, a_210, r_192_0, r_192_1, r_192_2, r_192_3, r_192_4, r_192_5, r_192_7, r_192_8, r_192_14, r_192_16, r_192_17, r_192_18, r_192_19, r_192_20, r_192_22, r_192_23, r_192_25, r_192_26, zrI, zrL, zrR, ne_eq, true_and, and_true, true_or, or_true, not_true_eq_false, not_false_eq_true, false_and, and_false, forall_const, true_implies, false_implies, implies_true, reduceCtorEq, Int.reduceEq, Int.reduceNe, Int.reduceLT, Int.reduceLE, Int.reduceNeg, Nat.reduceEqDiff, if_true, if_false, reduceIte, Int.reduceMul, Int.reduceAdd, Int.reduceSub]
  refine t_mSheet hs (fun s0 s1 => ?_) (fun c => ?_)
  · obtain ⟨g1, g2, g3⟩ := m s s0 (by omega)
    have eM := hM s s0 s1
    have hp := hp s s0 s1
    have hlen := hp.len
    have hr := hp.rng 0
    have hck := crkN_bd hp
    have hp' : Pt (M s) := by rw [eM]; exact hp
    have q := q1 s0 s1
    simp only [hS, g1, eM, zrI, zrL, zrR, Shp_wI, Shp_wJ, zR_wI, zR_wJ, zJ_wI, zI_wJ, zobj_wI, zobj_wJ, zarr_wI, zarr_wJ, zS_wI, zS_wJ, o_192, a_193, a_194, a_195, a_196, a_197, a_198, a_199, a_200, a_201, a_202, a_203, a_204, a_205, a_206, a_207, a_208, a_209, a_210, r_192_0, r_192_1, r_192_2, r_192_3, r_192_4, r_192_5, r_192_7, r_192_8, r_192_14, r_192_16, r_192_17, r_192_18, r_192_19, r_192_20, r_192_22, r_192_23, r_192_25, r_192_26, zrI, zrL, zrR, ne_eq, true_and, and_true, true_or, or_true, not_true_eq_false, not_false_eq_true, false_and, and_false, forall_const, true_implies, false_implies, implies_true, reduceCtorEq, Int.reduceEq, Int.reduceNe, Int.reduceLT, Int.reduceLE, Int.reduceNeg, Nat.reduceEqDiff, if_true, if_false, reduceIte, Int.reduceMul, Int.reduceAdd, Int.reduceSub]
    refine ⟨fun c => ⟨⟨s0, by omega⟩, by omega, t_inI hw (fun a b => ?_) (fun a => ?_)⟩, fun c => ?_, fun c => ⟨⟨s0, by omega⟩, q _ ?_⟩, fun c => ?_, fun c => ?_, fun c => ?_, fun c => ?_, fun c => ?_, fun c => ?_⟩
    · rw [l64 (by omega)] at b
      have a : 100 ≤ w := a
      simp only [hS, zrI, zrL, zrR, Shp_wI, Shp_wJ, zR_wI, zR_wJ, zJ_wI, zI_wJ, zobj_wI, zobj_wJ, zarr_wI, zarr_wJ, zS_wI, zS_wJ, o_192, a_193, a_194, a_195, a_196, a_197, a_198, a_199, a_200, a_201, a_202, a_203, a_204, a_205, a_206, a_207, a_208, a_209, a_210, r_192_0, r_192_1, r_192_2, r_192_3, r_192_4, r_192_5, r_192_7, r_192_8, r_192_14, r_192_16, r_192_17, r_192_18, r_192_19, r_192_20, r_192_22, r_192_23, r_192_25, r_192_26, zrI, zrL, zrR, ne_eq, true_and, and_true, true_or, or_true, not_true_eq_false, not_false_eq_true, false_and, and_false, forall_const, true_implies, false_implies, implies_true, reduceCtorEq, Int.reduceEq, Int.reduceNe, Int.reduceLT, Int.reduceLE, Int.reduceNeg, Nat.reduceEqDiff, if_true, if_false, reduceIte, Int.reduceMul, Int.reduceAdd, Int.reduceSub]
      refine ⟨by omega, t_mAt hS m s0 (by omega) (by omega) ?_⟩
      simp only [eM, zrI, zrL, zrR, Shp_wI, Shp_wJ, zR_wI, zR_wJ, zJ_wI, zI_wJ, zobj_wI, zobj_wJ, zarr_wI, zarr_wJ, zS_wI, zS_wJ, o_192, a_193, a_194, a_195, a_196, a_197, a_198, a_199, a_200, a_201, a_202, a_203, a_204, a_205, a_206, a_207, a_208, a_209, a_210, r_192_0, r_192_1, r_192_2, r_192_3, r_192_4, r_192_5, r_192_7, r_192_8, r_192_14, r_192_16, r_192_17, r_192_18, r_192_19, r_192_20, r_192_22, r_192_23, r_192_25, r_192_26, zrI, zrL, zrR, ne_eq, true_and, and_true, true_or, or_true, not_true_eq_false, not_false_eq_true, false_and, and_false, forall_const, true_implies, false_implies, implies_true, reduceCtorEq, Int.reduceEq, Int.reduceNe, Int.reduceLT, Int.reduceLE, Int.reduceNeg, Nat.reduceEqDiff, if_true, if_false, reduceIte, Int.reduceMul, Int.reduceAdd, Int.reduceSub]
      exact q _ ⟨fun e => by omega, fun e => by omega, fun e => by omega, fun e => by omega, fun e => by omega, fun e => by omega, fun e => by omega, fun e => by rw [if_pos (by omega)]⟩
    · rw [l64 (by omega)] at a
      have a : w < 100 ∨ 99 + ((S s).length : Int) < w := a
      simp only [hS, zrI, zrL, zrR, Shp_wI, Shp_wJ, zR_wI, zR_wJ, zJ_wI, zI_wJ, zobj_wI, zobj_wJ, zarr_wI, zarr_wJ, zS_wI, zS_wJ, o_192, a_193, a_194, a_195, a_196, a_197, a_198, a_199, a_200, a_201, a_202, a_203, a_204, a_205, a_206, a_207, a_208, a_209, a_210, r_192_0, r_192_1, r_192_2, r_192_3, r_192_4, r_192_5, r_192_7, r_192_8, r_192_14, r_192_16, r_192_17, r_192_18, r_192_19, r_192_20, r_192_22, r_192_23, r_192_25, r_192_26, zrI, zrL, zrR, ne_eq, true_and, and_true, true_or, or_true, not_true_eq_false, not_false_eq_true, false_and, and_false, forall_const, true_implies, false_implies, implies_true, reduceCtorEq, Int.reduceEq, Int.reduceNe, Int.reduceLT, Int.reduceLE, Int.reduceNeg, Nat.reduceEqDiff, if_true, if_false, reduceIte, Int.reduceMul, Int.reduceAdd, Int.reduceSub]
      exact q _ ⟨fun e => by omega, fun e => by omega, fun e => by omega, fun e => by omega, fun e => by omega, fun e => by omega, fun e => by omega, fun e => by rw [if_neg (by omega)]⟩
    · refine t_mSize hS m s0 (by omega) hp' ?_
      simp only [eM, zrI, zrL, zrR, Shp_wI, Shp_wJ, zR_wI, zR_wJ, zJ_wI, zI_wJ, zobj_wI, zobj_wJ, zarr_wI, zarr_wJ, zS_wI, zS_wJ, o_192, a_193, a_194, a_195, a_196, a_197, a_198, a_199, a_200, a_201, a_202, a_203, a_204, a_205, a_206, a_207, a_208, a_209, a_210, r_192_0, r_192_1, r_192_2, r_192_3, r_192_4, r_192_5, r_192_7, r_192_8, r_192_14, r_192_16, r_192_17, r_192_18, r_192_19, r_192_20, r_192_22, r_192_23, r_192_25, r_192_26, zrI, zrL, zrR, ne_eq, true_and, and_true, true_or, or_true, not_true_eq_false, not_false_eq_true, false_and, and_false, forall_const, true_implies, false_implies, implies_true, reduceCtorEq, Int.reduceEq, Int.reduceNe, Int.reduceLT, Int.reduceLE, Int.reduceNeg, Nat.reduceEqDiff, if_true, if_false, reduceIte, Int.reduceMul, Int.reduceAdd, Int.reduceSub]
      exact q _ ⟨fun e => rfl, fun e => by omega, fun e => by omega, fun e => by omega, fun e => by omega, fun e => by omega, fun e => by omega, fun e => by omega⟩
    · exact ⟨fun e => by omega, fun e => rfl, fun e => by omega, fun e => by omega, fun e => by omega, fun e => by omega, fun e => by omega, fun e => by omega⟩
    · refine t_mSheet_73 hS m s0 (by omega) hp' (fun r hf => q _ ?_) 401 0 _ _ (by omega) (by omega) (fun j j0 j1 => by omega)
      rw [eM] at hf
      exact ⟨fun e => by omega, fun e => by omega, fun e => hf, fun e => by omega, fun e => by omega, fun e => by omega, fun e => by omega, fun e => by omega⟩
    · refine t_mRankOf hS m s0 (by omega) hp' ?_
      simp only [eM, zrI, zrL, zrR, Shp_wI, Shp_wJ, zR_wI, zR_wJ, zJ_wI, zI_wJ, zobj_wI, zobj_wJ, zarr_wI, zarr_wJ, zS_wI, zS_wJ, o_192, a_193, a_194, a_195, a_196, a_197, a_198, a_199, a_200, a_201, a_202, a_203, a_204, a_205, a_206, a_207, a_208, a_209, a_210, r_192_0, r_192_1, r_192_2, r_192_3, r_192_4, r_192_5, r_192_7, r_192_8, r_192_14, r_192_16, r_192_17, r_192_18, r_192_19, r_192_20, r_192_22, r_192_23, r_192_25, r_192_26, zrI, zrL, zrR, ne_eq, true_and, and_true, true_or, or_true, not_true_eq_false, not_false_eq_true, false_and, and_false, forall_const, true_implies, false_implies, implies_true, reduceCtorEq, Int.reduceEq, Int.reduceNe, Int.reduceLT, Int.reduceLE, Int.reduceNeg, Nat.reduceEqDiff, if_true, if_false, reduceIte, Int.reduceMul, Int.reduceAdd, Int.reduceSub]
      exact ⟨by omega, q _ ⟨fun e => by omega, fun e => by omega, fun e => by omega, fun e => rfl, fun e => by omega, fun e => by omega, fun e => by omega, fun e => by omega⟩⟩
    · refine t_mCrank hS m s0 (by omega) hp' ?_
      simp only [eM, zrI, zrL, zrR, Shp_wI, Shp_wJ, zR_wI, zR_wJ, zJ_wI, zI_wJ, zobj_wI, zobj_wJ, zarr_wI, zarr_wJ, zS_wI, zS_wJ, o_192, a_193, a_194, a_195, a_196, a_197, a_198, a_199, a_200, a_201, a_202, a_203, a_204, a_205, a_206, a_207, a_208, a_209, a_210, r_192_0, r_192_1, r_192_2, r_192_3, r_192_4, r_192_5, r_192_7, r_192_8, r_192_14, r_192_16, r_192_17, r_192_18, r_192_19, r_192_20, r_192_22, r_192_23, r_192_25, r_192_26, zrI, zrL, zrR, ne_eq, true_and, and_true, true_or, or_true, not_true_eq_false, not_false_eq_true, false_and, and_false, forall_const, true_implies, false_implies, implies_true, reduceCtorEq, Int.reduceEq, Int.reduceNe, Int.reduceLT, Int.reduceLE, Int.reduceNeg, Nat.reduceEqDiff, if_true, if_false, reduceIte, Int.reduceMul, Int.reduceAdd, Int.reduceSub]
      exact ⟨by omega, q _ ⟨fun e => by omega, fun e => by omega, fun e => by omega, fun e => by omega, fun e => rfl, fun e => by omega, fun e => by omega, fun e => by omega⟩⟩
    · refine (t_mSheet_114 hS m s0 (by omega) hp' (q _ ?_) (M s).length 0 _ (by omega)).1
      rw [eM]
      exact ⟨fun e => by omega, fun e => by omega, fun e => by omega, fun e => by omega, fun e => by omega, fun e => rfl, fun e => by omega, fun e => by omega⟩
    · refine t_mSheet_163 hS m s0 (by omega) hp' (q _ ?_) (M s).length 0 _ (by omega)
      rw [eM]
      exact ⟨fun e => by omega, fun e => by omega, fun e => by omega, fun e => by omega, fun e => by omega, fun e => by omega, fun e => rfl, fun e => by omega⟩
    · refine (t_mSheet_114 hS m s0 (by omega) hp' (q _ ?_) (M s).length 0 _ (by omega)).2
      rw [eM]
      exact ⟨fun e => by omega, fun e => by omega, fun e => by omega, fun e => by omega, fun e => by omega, fun e => rfl, fun e => by omega, fun e => by omega⟩
  · simp only [hS, zrI, zrL, zrR, Shp_wI, Shp_wJ, zR_wI, zR_wJ, zJ_wI, zI_wJ, zobj_wI, zobj_wJ, zarr_wI, zarr_wJ, zS_wI, zS_wJ, o_192, a_193, a_194, a_195, a_196, a_197, a_198, a_199, a_200, a_201, a_202, a_203, a_204, a_205, a_206, a_207, a_208, a_209, a_210, r_192_0, r_192_1, r_192_2, r_192_3, r_192_4, r_192_5, r_192_7, r_192_8, r_192_14, r_192_16, r_192_17, r_192_18, r_192_19, r_192_20, r_192_22, r_192_23, r_192_25, r_192_26, zrI, zrL, zrR, ne_eq, true_and, and_true, true_or, or_true, not_true_eq_false, not_false_eq_true, false_and, and_false, forall_const, true_implies, false_implies, implies_true, reduceCtorEq, Int.reduceEq, Int.reduceNe, Int.reduceLT, Int.reduceLE, Int.reduceNeg, Nat.reduceEqDiff, if_true, if_false, reduceIte, Int.reduceMul, Int.reduceAdd, Int.reduceSub]
    exact q0 (by omega)
