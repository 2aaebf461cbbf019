/-! the reference: undo, hook, sheet -/
theorem ex_fst {P : Int → Prop} [DecidablePred P] : ∀ n : Nat, ¬ P (n : Int) → ∃ r : Int, r ≤ n ∧ Fst P r := by
  intro n
  have key : ∀ k : Nat, k ≤ n → (∀ i : Int, 0 ≤ i → i < k → P i) ∨ ∃ r : Int, r ≤ n ∧ Fst P r := by
    intro k
    induction k with
    | zero => exact fun _ => Or.inl (fun i i0 i1 => by omega)
    | succ k ih =>
      intro hk
      rcases ih (by omega) with h | h
      · by_cases hp : P (k : Int)
        · refine Or.inl (fun i i0 i1 => ?_)
          by_cases e : i = k
          · rw [e]; exact hp
          · exact h i i0 (by omega)
        · exact Or.inr ⟨k, by omega, by omega, h, hp⟩
      · exact Or.inr h
  intro hn
  rcases key n (Nat.le_refl _) with h | h
  · exact ⟨n, by omega, by omega, h, hn⟩
  · exact h
theorem colN_isFst {l : List Int} {j : Int} (hp : Pt l) (hj : 0 ≤ j) : Fst (fun k => j < ga l k) (colN l j) ∧ colN l j ≤ (l.length : Int) := by
  obtain ⟨r, h1, h2⟩ := ex_fst (P := fun k => j < ga l k) l.length (by rw [ga_out (by omega)]; omega)
  rw [colN_fst hp hj h2]
  exact ⟨h2, h1⟩
/-- the reference's hook is the class's -/
theorem hk_col {l : List Int} {i j : Int} (hp : Pt l) (hi : 0 ≤ i) (hj : 0 ≤ j) (h : j < ga l i) : ga l i - j + colN l j - i - 1 = hkN l i j := by
  obtain ⟨h1, h2⟩ := colN_isFst hp hj
  have hc : i < colN l j := by
    rcases Int.lt_or_le i (colN l j) with w | w
    · exact w
    · have h3 : ¬ j < ga l (colN l j) := h1.2.2
      have := hp.2.2 (colN l j) i h1.1 w
      omega
  have := legN_fst (r := colN l j - i - 1) hp hi hj ⟨by omega, fun k k0 k1 => h1.2.1 (i + 1 + k) (by omega) (by omega), by
    show ¬ j < ga l (i + 1 + (colN l j - i - 1))
    rw [show i + 1 + (colN l j - i - 1) = colN l j by omega]
    exact h1.2.2⟩
  unfold hkN
  omega
theorem t_mHookOf {Q : ZQ} {σ : ZM} {M : Int → List Int} {s i j : Int} (hS : Shp σ) (m : MS σ M) (s0 : 0 ≤ s) (s1 : s ≤ 10) (hp : Pt (M s)) (i0 : 0 ≤ i) (j0 : 0 ≤ j) (hj : j < ga (M s) i) (q : Q (zi (hkN (M s) i j)) σ) : WP m_Mod_hookOf 0 [zr 192, zi s, zi i, zi j] [] σ (0, 0) Q := by
  have hr := hp.rng i
  have hi : i < ((M s).length : Int) := by
    rcases Int.lt_or_le i ((M s).length : Int) with w | w
    · exact w
    · rw [ga_out w] at hj; omega
  have hlen := hp.len
  have hc := colN_bd (l := M s) (j := j)
  refine r_Mod_hookOf_0 ?_
  simp only [hS, zrI, zrL, zrR, Shp_wI, Shp_wJ, zR_wI, zR_wJ, zJ_wI, zI_wJ, zobj_wI, zobj_wJ, zarr_wI, zarr_wJ, zS_wI, zS_wJ, o_192, a_193, a_194, a_195, a_196, a_197, a_198, a_199, a_200, a_201, a_202, a_203, a_204, a_205, a_206, a_207, a_208, a_209, a_210, r_192_0, r_192_1, r_192_2, r_192_3, r_192_4, r_192_5, r_192_7, r_192_8, r_192_14, r_192_16, r_192_17, r_192_18, r_192_19, r_192_20, r_192_22, r_192_23, r_192_25, r_192_26, zrI, zrL, zrR, ne_eq, true_and, and_true, true_or, or_true, not_true_eq_false, not_false_eq_true, false_and, and_false, forall_const, true_implies, false_implies, implies_true, reduceCtorEq, Int.reduceEq, Int.reduceNe, Int.reduceLT, Int.reduceLE, Int.reduceNeg, Nat.reduceEqDiff, if_true, if_false, reduceIte, Int.reduceMul, Int.reduceAdd, Int.reduceSub]
  refine t_mAt hS m s0 s1 i0 ?_
  simp only [hS, zrI, zrL, zrR, Shp_wI, Shp_wJ, zR_wI, zR_wJ, zJ_wI, zI_wJ, zobj_wI, zobj_wJ, zarr_wI, zarr_wJ, zS_wI, zS_wJ, o_192, a_193, a_194, a_195, a_196, a_197, a_198, a_199, a_200, a_201, a_202, a_203, a_204, a_205, a_206, a_207, a_208, a_209, a_210, r_192_0, r_192_1, r_192_2, r_192_3, r_192_4, r_192_5, r_192_7, r_192_8, r_192_14, r_192_16, r_192_17, r_192_18, r_192_19, r_192_20, r_192_22, r_192_23, r_192_25, r_192_26, zrI, zrL, zrR, ne_eq, true_and, and_true, true_or, or_true, not_true_eq_false, not_false_eq_true, false_and, and_false, forall_const, true_implies, false_implies, implies_true, reduceCtorEq, Int.reduceEq, Int.reduceNe, Int.reduceLT, Int.reduceLE, Int.reduceNeg, Nat.reduceEqDiff, if_true, if_false, reduceIte, Int.reduceMul, Int.reduceAdd, Int.reduceSub]
  repeat' first | omega | exact Or.inl (by omega) | apply And.intro | refine fun (_ : _ ≤ _) => ?_ | refine fun (_ : _ < _) => ?_ | refine fun (_ : _ = _) => ?_ | refine fun (_ : ¬ (_ = _)) => ?_ | refine fun (_ : _ ∨ _) => ?_
  refine t_mColumn hS m s0 s1 hp j0 ?_
  simp only [hS, zrI, zrL, zrR, Shp_wI, Shp_wJ, zR_wI, zR_wJ, zJ_wI, zI_wJ, zobj_wI, zobj_wJ, zarr_wI, zarr_wJ, zS_wI, zS_wJ, o_192, a_193, a_194, a_195, a_196, a_197, a_198, a_199, a_200, a_201, a_202, a_203, a_204, a_205, a_206, a_207, a_208, a_209, a_210, r_192_0, r_192_1, r_192_2, r_192_3, r_192_4, r_192_5, r_192_7, r_192_8, r_192_14, r_192_16, r_192_17, r_192_18, r_192_19, r_192_20, r_192_22, r_192_23, r_192_25, r_192_26, zrI, zrL, zrR, ne_eq, true_and, and_true, true_or, or_true, not_true_eq_false, not_false_eq_true, false_and, and_false, forall_const, true_implies, false_implies, implies_true, reduceCtorEq, Int.reduceEq, Int.reduceNe, Int.reduceLT, Int.reduceLE, Int.reduceNeg, Nat.reduceEqDiff, if_true, if_false, reduceIte, Int.reduceMul, Int.reduceAdd, Int.reduceSub]
  repeat' first | omega | exact Or.inl (by omega) | apply And.intro | refine fun (_ : _ ≤ _) => ?_ | refine fun (_ : _ < _) => ?_ | refine fun (_ : _ = _) => ?_ | refine fun (_ : ¬ (_ = _)) => ?_ | refine fun (_ : _ ∨ _) => ?_
  rw [hk_col hp i0 j0 hj]
  exact q
theorem m_hook {Q : ZQ} {σ : ZM} {N : List (Int × List Int)} {S : Int → List Int} {s i j : Int} (h : MI σ S N) (hp : PtS S) (hs : -2147483648 ≤ s ∧ s ≤ 2147483647) (hi : -2147483648 ≤ i ∧ i ≤ 2147483647) (hj : -2147483648 ≤ j ∧ j ≤ 2147483647)
    (q0 : (s < 0 ∨ 7 < s ∨ i < 0 ∨ j < 0 ∨ ga (S s) i ≤ j) → Q (zi (-2)) σ) (q1 : 0 ≤ s → s ≤ 7 → 0 ≤ i → 0 ≤ j → j < ga (S s) i → Q (zi (hkN (S s) i j)) σ) : WP m_Mod_hook 0 [zr 192, zi s, zi i, zi j] [] σ (0, 0) Q := by
  obtain ⟨hS, hn, M, m, hM⟩ := h
  refine r_Mod_hook_0 ?_
  simp only [hS, zrI, zrL, zrR, Shp_wI, Shp_wJ, zR_wI, zR_wJ, zJ_wI, zI_wJ, zobj_wI, zobj_wJ, zarr_wI, zarr_wJ, zS_wI, zS_wJ, o_192, a_193, a_194, a_195, a_196, a_197, a_198, a_199, a_200, a_201, a_202, a_203, a_204, a_205, a_206, a_207, a_208, a_209, a_210, r_192_0, r_192_1, r_192_2, r_192_3, r_192_4, r_192_5, r_192_7, r_192_8, r_192_14, r_192_16, r_192_17, r_192_18, r_192_19, r_192_20, r_192_22, r_192_23, r_192_25, r_192_26, zrI, zrL, zrR, ne_eq, true_and, and_true, true_or, or_true, not_true_eq_false, not_false_eq_true, false_and, and_false, forall_const, true_implies, false_implies, implies_true, reduceCtorEq, Int.reduceEq, Int.reduceNe, Int.reduceLT, Int.reduceLE, Int.reduceNeg, Nat.reduceEqDiff, if_true, if_false, reduceIte, Int.reduceMul, Int.reduceAdd, Int.reduceSub]
  refine t_mSheet hs (fun s0 s1 => ?_) (fun c => ?_)
  · obtain ⟨g1, g2, g3⟩ := m s s0 (by omega)
    have hp := hp s s0 s1
    have hlen := hp.len
    have hr := hp.rng i
    have eM := hM s s0 s1
    simp only [hS, zrI, zrL, zrR, Shp_wI, Shp_wJ, zR_wI, zR_wJ, zJ_wI, zI_wJ, zobj_wI, zobj_wJ, zarr_wI, zarr_wJ, zS_wI, zS_wJ, o_192, a_193, a_194, a_195, a_196, a_197, a_198, a_199, a_200, a_201, a_202, a_203, a_204, a_205, a_206, a_207, a_208, a_209, a_210, r_192_0, r_192_1, r_192_2, r_192_3, r_192_4, r_192_5, r_192_7, r_192_8, r_192_14, r_192_16, r_192_17, r_192_18, r_192_19, r_192_20, r_192_22, r_192_23, r_192_25, r_192_26, zrI, zrL, zrR, ne_eq, true_and, and_true, true_or, or_true, not_true_eq_false, not_false_eq_true, false_and, and_false, forall_const, true_implies, false_implies, implies_true, reduceCtorEq, Int.reduceEq, Int.reduceNe, Int.reduceLT, Int.reduceLE, Int.reduceNeg, Nat.reduceEqDiff, if_true, if_false, reduceIte, Int.reduceMul, Int.reduceAdd, Int.reduceSub]
    rw [g1, eM]
    repeat' first | omega | exact Or.inl (by omega) | apply And.intro | refine fun (_ : _ ≤ _) => ?_ | refine fun (_ : _ < _) => ?_ | refine fun (_ : _ = _) => ?_ | refine fun (_ : ¬ (_ = _)) => ?_ | refine fun (_ : _ ∨ _) => ?_
    refine t_inI hi (fun a b => ?_) (fun a => ?_)
    · rw [l64 (by omega)] at b
      have a : 0 ≤ i := a
      simp only [hS, zrI, zrL, zrR, Shp_wI, Shp_wJ, zR_wI, zR_wJ, zJ_wI, zI_wJ, zobj_wI, zobj_wJ, zarr_wI, zarr_wJ, zS_wI, zS_wJ, o_192, a_193, a_194, a_195, a_196, a_197, a_198, a_199, a_200, a_201, a_202, a_203, a_204, a_205, a_206, a_207, a_208, a_209, a_210, r_192_0, r_192_1, r_192_2, r_192_3, r_192_4, r_192_5, r_192_7, r_192_8, r_192_14, r_192_16, r_192_17, r_192_18, r_192_19, r_192_20, r_192_22, r_192_23, r_192_25, r_192_26, zrI, zrL, zrR, ne_eq, true_and, and_true, true_or, or_true, not_true_eq_false, not_false_eq_true, false_and, and_false, forall_const, true_implies, false_implies, implies_true, reduceCtorEq, Int.reduceEq, Int.reduceNe, Int.reduceLT, Int.reduceLE, Int.reduceNeg, Nat.reduceEqDiff, if_true, if_false, reduceIte, Int.reduceMul, Int.reduceAdd, Int.reduceSub]
      refine t_mAt hS m s0 (by omega) a ?_
      simp only [hS, eM, zrI, zrL, zrR, Shp_wI, Shp_wJ, zR_wI, zR_wJ, zJ_wI, zI_wJ, zobj_wI, zobj_wJ, zarr_wI, zarr_wJ, zS_wI, zS_wJ, o_192, a_193, a_194, a_195, a_196, a_197, a_198, a_199, a_200, a_201, a_202, a_203, a_204, a_205, a_206, a_207, a_208, a_209, a_210, r_192_0, r_192_1, r_192_2, r_192_3, r_192_4, r_192_5, r_192_7, r_192_8, r_192_14, r_192_16, r_192_17, r_192_18, r_192_19, r_192_20, r_192_22, r_192_23, r_192_25, r_192_26, zrI, zrL, zrR, ne_eq, true_and, and_true, true_or, or_true, not_true_eq_false, not_false_eq_true, false_and, and_false, forall_const, true_implies, false_implies, implies_true, reduceCtorEq, Int.reduceEq, Int.reduceNe, Int.reduceLT, Int.reduceLE, Int.reduceNeg, Nat.reduceEqDiff, if_true, if_false, reduceIte, Int.reduceMul, Int.reduceAdd, Int.reduceSub]
      repeat' first | omega | exact Or.inl (by omega) | apply And.intro | refine fun (_ : _ ≤ _) => ?_ | refine fun (_ : _ < _) => ?_ | refine fun (_ : _ = _) => ?_ | refine fun (_ : ¬ (_ = _)) => ?_ | refine fun (_ : _ ∨ _) => ?_
      refine t_inI hj (fun a2 b2 => ?_) (fun a2 => ?_)
      · rw [l64 (by omega)] at b2
        have a2 : 0 ≤ j := a2
        simp only [hS, zrI, zrL, zrR, Shp_wI, Shp_wJ, zR_wI, zR_wJ, zJ_wI, zI_wJ, zobj_wI, zobj_wJ, zarr_wI, zarr_wJ, zS_wI, zS_wJ, o_192, a_193, a_194, a_195, a_196, a_197, a_198, a_199, a_200, a_201, a_202, a_203, a_204, a_205, a_206, a_207, a_208, a_209, a_210, r_192_0, r_192_1, r_192_2, r_192_3, r_192_4, r_192_5, r_192_7, r_192_8, r_192_14, r_192_16, r_192_17, r_192_18, r_192_19, r_192_20, r_192_22, r_192_23, r_192_25, r_192_26, zrI, zrL, zrR, ne_eq, true_and, and_true, true_or, or_true, not_true_eq_false, not_false_eq_true, false_and, and_false, forall_const, true_implies, false_implies, implies_true, reduceCtorEq, Int.reduceEq, Int.reduceNe, Int.reduceLT, Int.reduceLE, Int.reduceNeg, Nat.reduceEqDiff, if_true, if_false, reduceIte, Int.reduceMul, Int.reduceAdd, Int.reduceSub]
        refine t_mHookOf hS m s0 (by omega) (by rw [eM]; exact hp) a a2 (by rw [eM]; omega) ?_
        simp only [eM, zrI, zrL, zrR, Shp_wI, Shp_wJ, zR_wI, zR_wJ, zJ_wI, zI_wJ, zobj_wI, zobj_wJ, zarr_wI, zarr_wJ, zS_wI, zS_wJ, o_192, a_193, a_194, a_195, a_196, a_197, a_198, a_199, a_200, a_201, a_202, a_203, a_204, a_205, a_206, a_207, a_208, a_209, a_210, r_192_0, r_192_1, r_192_2, r_192_3, r_192_4, r_192_5, r_192_7, r_192_8, r_192_14, r_192_16, r_192_17, r_192_18, r_192_19, r_192_20, r_192_22, r_192_23, r_192_25, r_192_26, zrI, zrL, zrR, ne_eq, true_and, and_true, true_or, or_true, not_true_eq_false, not_false_eq_true, false_and, and_false, forall_const, true_implies, false_implies, implies_true, reduceCtorEq, Int.reduceEq, Int.reduceNe, Int.reduceLT, Int.reduceLE, Int.reduceNeg, Nat.reduceEqDiff, if_true, if_false, reduceIte, Int.reduceMul, Int.reduceAdd, Int.reduceSub]
        exact q1 s0 s1 a a2 (by omega)
      · rw [l64 (by omega)] at a2
        have a2 : j < 0 ∨ ga (S s) i - 1 < j := a2
        simp only [hS, zrI, zrL, zrR, Shp_wI, Shp_wJ, zR_wI, zR_wJ, zJ_wI, zI_wJ, zobj_wI, zobj_wJ, zarr_wI, zarr_wJ, zS_wI, zS_wJ, o_192, a_193, a_194, a_195, a_196, a_197, a_198, a_199, a_200, a_201, a_202, a_203, a_204, a_205, a_206, a_207, a_208, a_209, a_210, r_192_0, r_192_1, r_192_2, r_192_3, r_192_4, r_192_5, r_192_7, r_192_8, r_192_14, r_192_16, r_192_17, r_192_18, r_192_19, r_192_20, r_192_22, r_192_23, r_192_25, r_192_26, zrI, zrL, zrR, ne_eq, true_and, and_true, true_or, or_true, not_true_eq_false, not_false_eq_true, false_and, and_false, forall_const, true_implies, false_implies, implies_true, reduceCtorEq, Int.reduceEq, Int.reduceNe, Int.reduceLT, Int.reduceLE, Int.reduceNeg, Nat.reduceEqDiff, if_true, if_false, reduceIte, Int.reduceMul, Int.reduceAdd, Int.reduceSub]
        exact q0 (by omega)
    · rw [l64 (by omega)] at a
      have a : i < 0 ∨ ((S s).length : Int) - 1 < i := a
      simp only [hS, zrI, zrL, zrR, Shp_wI, Shp_wJ, zR_wI, zR_wJ, zJ_wI, zI_wJ, zobj_wI, zobj_wJ, zarr_wI, zarr_wJ, zS_wI, zS_wJ, o_192, a_193, a_194, a_195, a_196, a_197, a_198, a_199, a_200, a_201, a_202, a_203, a_204, a_205, a_206, a_207, a_208, a_209, a_210, r_192_0, r_192_1, r_192_2, r_192_3, r_192_4, r_192_5, r_192_7, r_192_8, r_192_14, r_192_16, r_192_17, r_192_18, r_192_19, r_192_20, r_192_22, r_192_23, r_192_25, r_192_26, zrI, zrL, zrR, ne_eq, true_and, and_true, true_or, or_true, not_true_eq_false, not_false_eq_true, false_and, and_false, forall_const, true_implies, false_implies, implies_true, reduceCtorEq, Int.reduceEq, Int.reduceNe, Int.reduceLT, Int.reduceLE, Int.reduceNeg, Nat.reduceEqDiff, if_true, if_false, reduceIte, Int.reduceMul, Int.reduceAdd, Int.reduceSub]
      by_cases c : i < 0
      · exact q0 (by omega)
      · by_cases c2 : j < 0
        · exact q0 (by omega)
        · exact q0 (by rw [ga_out (by omega)]; omega)
  · simp only [hS, zrI, zrL, zrR, Shp_wI, Shp_wJ, zR_wI, zR_wJ, zJ_wI, zI_wJ, zobj_wI, zobj_wJ, zarr_wI, zarr_wJ, zS_wI, zS_wJ, o_192, a_193, a_194, a_195, a_196, a_197, a_198, a_199, a_200, a_201, a_202, a_203, a_204, a_205, a_206, a_207, a_208, a_209, a_210, r_192_0, r_192_1, r_192_2, r_192_3, r_192_4, r_192_5, r_192_7, r_192_8, r_192_14, r_192_16, r_192_17, r_192_18, r_192_19, r_192_20, r_192_22, r_192_23, r_192_25, r_192_26, zrI, zrL, zrR, ne_eq, true_and, and_true, true_or, or_true, not_true_eq_false, not_false_eq_true, false_and, and_false, forall_const, true_implies, false_implies, implies_true, reduceCtorEq, Int.reduceEq, Int.reduceNe, Int.reduceLT, Int.reduceLE, Int.reduceNeg, Nat.reduceEqDiff, if_true, if_false, reduceIte, Int.reduceMul, Int.reduceAdd, Int.reduceSub]
    exact q0 (by omega)
theorem t_mUndo_46 {Q : ZQ} {M : Int → List Int} {s n : Int} {e : Int × List Int} (s0 : 0 ≤ s) (s1 : s ≤ 10) (n0 : 0 ≤ n) (n1 : n ≤ 59) (he : e.2.length ≤ 400) : ∀ (k : Nat) (i : Int) (σ : ZM), 0 ≤ i → i + k = (e.2.length : Int) → Shp σ → zI σ 192 6 = n → zI σ 195 s = (e.2.length : Int) → MNj σ n e → (∀ u, 0 ≤ u → u ≤ 10 → u ≠ s → MSu σ u (M u)) → (∀ j, 0 ≤ j → j < i → zI σ 194 (400 * s + j) = ga e.2 j) → (∀ σ', MS σ' (upS M s e.2) → Fz (fun a _ => a = 194) σ σ' → Q (zi n) σ') → WP m_Mod_undo 46 [zr 192, zi s, zi i] [] σ (0, 0) Q
  | 0, i, σ, i0, hk, hS, e6, e5, hj, hm, hc, q => by
    refine r_Mod_undo_46 ?_
    simp only [hS, e6, e5, zrI, zrL, zrR, Shp_wI, Shp_wJ, zR_wI, zR_wJ, zJ_wI, zI_wJ, zobj_wI, zobj_wJ, zarr_wI, zarr_wJ, zS_wI, zS_wJ, o_192, a_193, a_194, a_195, a_196, a_197, a_198, a_199, a_200, a_201, a_202, a_203, a_204, a_205, a_206, a_207, a_208, a_209, a_210, r_192_0, r_192_1, r_192_2, r_192_3, r_192_4, r_192_5, r_192_7, r_192_8, r_192_14, r_192_16, r_192_17, r_192_18, r_192_19, r_192_20, r_192_22, r_192_23, r_192_25, r_192_26, zrI, zrL, zrR, ne_eq, true_and, and_true, true_or, or_true, not_true_eq_false, not_false_eq_true, false_and, and_false, forall_const, true_implies, false_implies, implies_true, reduceCtorEq, Int.reduceEq, Int.reduceNe, Int.reduceLT, Int.reduceLE, Int.reduceNeg, Nat.reduceEqDiff, if_true, if_false, reduceIte, Int.reduceMul, Int.reduceAdd, Int.reduceSub]
    repeat' first | omega | exact Or.inl (by omega) | apply And.intro | refine fun (_ : _ ≤ _) => ?_ | refine fun (_ : _ < _) => ?_ | refine fun (_ : _ = _) => ?_ | refine fun (_ : ¬ (_ = _)) => ?_ | refine fun (_ : _ ∨ _) => ?_
    refine q σ (fun u u0 u1 => ?_) Fz.rf
    unfold upS
    by_cases ee : u = s
    · rw [if_pos ee, ee]
      exact ⟨e5, he, fun x x0 x1 => hc x x0 (by omega)⟩
    · rw [if_neg ee]
      exact hm u u0 u1 ee
  | k + 1, i, σ, i0, hk, hS, e6, e5, hj, hm, hc, q => by
    refine r_Mod_undo_46 ?_
    simp only [hS, e6, e5, zrI, zrL, zrR, Shp_wI, Shp_wJ, zR_wI, zR_wJ, zJ_wI, zI_wJ, zobj_wI, zobj_wJ, zarr_wI, zarr_wJ, zS_wI, zS_wJ, o_192, a_193, a_194, a_195, a_196, a_197, a_198, a_199, a_200, a_201, a_202, a_203, a_204, a_205, a_206, a_207, a_208, a_209, a_210, r_192_0, r_192_1, r_192_2, r_192_3, r_192_4, r_192_5, r_192_7, r_192_8, r_192_14, r_192_16, r_192_17, r_192_18, r_192_19, r_192_20, r_192_22, r_192_23, r_192_25, r_192_26, zrI, zrL, zrR, ne_eq, true_and, and_true, true_or, or_true, not_true_eq_false, not_false_eq_true, false_and, and_false, forall_const, true_implies, false_implies, implies_true, reduceCtorEq, Int.reduceEq, Int.reduceNe, Int.reduceLT, Int.reduceLE, Int.reduceNeg, Nat.reduceEqDiff, if_true, if_false, reduceIte, Int.reduceMul, Int.reduceAdd, Int.reduceSub]
    repeat' first | omega | exact Or.inl (by omega) | apply And.intro | refine fun (_ : _ ≤ _) => ?_ | refine fun (_ : _ < _) => ?_ | refine fun (_ : _ = _) => ?_ | refine fun (_ : ¬ (_ = _)) => ?_ | refine fun (_ : _ ∨ _) => ?_
    have f : Fz (fun a j => a = 194 ∧ j = 400 * s + i) σ (wI σ 194 (400 * s + i) (zI σ 196 (400 * n + i))) := Fz.wI ⟨rfl, rfl⟩
    refine t_mUndo_46 s0 s1 n0 n1 he k (i + 1) _ (by omega) (by omega) hS (by rw [f.i (by omega)]; exact e6) (by rw [f.i (by omega)]; exact e5) (f.mnj (by omega) (by omega) (fun x x0 x1 => by omega) hj) (fun u u0 u1 ee => ?_) (fun j j0 j1 => ?_) (fun σ' k1 k2 => q σ' k1 ((f.mono (fun a j w => w.1)).tr k2))
    · obtain ⟨h1, h2, h3⟩ := hm u u0 u1 ee
      exact ⟨by rw [f.i (by omega)]; exact h1, h2, fun x x0 x1 => by rw [f.i (by omega)]; exact h3 x x0 x1⟩
    · rw [zI_wI]
      by_cases ee : j = i
      · rw [ee, if_pos ⟨rfl, rfl⟩]; exact hj.2.2.2 i i0 (by omega)
      · rw [if_neg (by omega)]; exact hc j j0 (by omega)
set_option maxHeartbeats 1000000 in
theorem m_undo {Q : ZQ} {σ : ZM} {N : List (Int × List Int)} {S : Int → List Int} (h : MI σ S N) (hN : ∀ e ∈ N, 0 ≤ e.1 ∧ e.1 ≤ 7 ∧ Pt e.2) (q0 : N = [] → Q (zi (-1)) σ)
    (q1 : ∀ e N', N = e :: N' → ∀ σ', MI σ' (upS S e.1 e.2) N' → Fz maf σ σ' → Q (zi (N'.length : Int)) σ') : WP m_Mod_undo 0 [zr 192, zu, zu] [] σ (0, 0) Q := by
  obtain ⟨hS, hn, M, m, hM⟩ := h
  obtain ⟨e6, hN6, hE⟩ := hn
  refine r_Mod_undo_0 ?_
  rcases N with _ | ⟨e, N'⟩
  · have e6 : zI σ 192 6 = 0 := e6
    simp only [hS, e6, zrI, zrL, zrR, Shp_wI, Shp_wJ, zR_wI, zR_wJ, zJ_wI, zI_wJ, zobj_wI, zobj_wJ, zarr_wI, zarr_wJ, zS_wI, zS_wJ, o_192, a_193, a_194, a_195, a_196, a_197, a_198, a_199, a_200, a_201, a_202, a_203, a_204, a_205, a_206, a_207, a_208, a_209, a_210, r_192_0, r_192_1, r_192_2, r_192_3, r_192_4, r_192_5, r_192_7, r_192_8, r_192_14, r_192_16, r_192_17, r_192_18, r_192_19, r_192_20, r_192_22, r_192_23, r_192_25, r_192_26, zrI, zrL, zrR, ne_eq, true_and, and_true, true_or, or_true, not_true_eq_false, not_false_eq_true, false_and, and_false, forall_const, true_implies, false_implies, implies_true, reduceCtorEq, Int.reduceEq, Int.reduceNe, Int.reduceLT, Int.reduceLE, Int.reduceNeg, Nat.reduceEqDiff, if_true, if_false, reduceIte, Int.reduceMul, Int.reduceAdd, Int.reduceSub]
    exact q0 rfl
  · obtain ⟨e0, e1, ep⟩ := hN e List.mem_cons_self
    have hc : ((e :: N').length : Int) = N'.length + 1 := by simp
    rw [hc] at e6 hE
    have hl : N'.length + 1 ≤ 60 := by simpa using hN6
    have hj := hE 0 e rfl
    rw [show (N'.length : Int) + 1 - 1 - ((0 : Nat) : Int) = N'.length by omega] at hj
    obtain ⟨g1, g2, g3, g4⟩ := id hj
    have ee : (N'.length : Int) + 1 - 1 = N'.length := by omega
    simp only [hS, e6, zI_wI, ee, g1, g2, zrI, zrL, zrR, Shp_wI, Shp_wJ, zR_wI, zR_wJ, zJ_wI, zI_wJ, zobj_wI, zobj_wJ, zarr_wI, zarr_wJ, zS_wI, zS_wJ, o_192, a_193, a_194, a_195, a_196, a_197, a_198, a_199, a_200, a_201, a_202, a_203, a_204, a_205, a_206, a_207, a_208, a_209, a_210, r_192_0, r_192_1, r_192_2, r_192_3, r_192_4, r_192_5, r_192_7, r_192_8, r_192_14, r_192_16, r_192_17, r_192_18, r_192_19, r_192_20, r_192_22, r_192_23, r_192_25, r_192_26, zrI, zrL, zrR, ne_eq, true_and, and_true, true_or, or_true, not_true_eq_false, not_false_eq_true, false_and, and_false, forall_const, true_implies, false_implies, implies_true, reduceCtorEq, Int.reduceEq, Int.reduceNe, Int.reduceLT, Int.reduceLE, Int.reduceNeg, Nat.reduceEqDiff, if_true, if_false, reduceIte, Int.reduceMul, Int.reduceAdd, Int.reduceSub]
    repeat' first | omega | exact Or.inl (by omega) | apply And.intro | refine fun (_ : _ ≤ _) => ?_ | refine fun (_ : _ < _) => ?_ | refine fun (_ : _ = _) => ?_ | refine fun (_ : ¬ (_ = _)) => ?_ | refine fun (_ : _ ∨ _) => ?_
    have f : Fz (fun a j => (a = 192 ∧ j = 6) ∨ (a = 195 ∧ j = e.1)) σ (wI (wI σ 192 6 (N'.length : Int)) 195 e.1 (e.2.length : Int)) := (Fz.wI (Or.inl ⟨rfl, rfl⟩)).tr (Fz.wI (Or.inr ⟨rfl, rfl⟩))
    refine t_mUndo_46 (M := M) (n := (N'.length : Int)) (e := e) e0 (by omega) (by omega) (by omega) g3 e.2.length 0 _ (by omega) (by omega) hS ?_ ?_ (f.mnj (by omega) (by omega) (fun x x0 x1 => by omega) hj) (fun u u0 u1 ne => ?_) (fun j j0 j1 => by omega) (fun σ' k1 k2 => ?_)
    · simp only [zI_wI, zrI, zrL, zrR, ne_eq, true_and, and_true, true_or, or_true, not_true_eq_false, not_false_eq_true, false_and, and_false, forall_const, true_implies, false_implies, implies_true, reduceCtorEq, Int.reduceEq, Int.reduceNe, Int.reduceLT, Int.reduceLE, Int.reduceNeg, Nat.reduceEqDiff, if_true, if_false, reduceIte, Int.reduceMul, Int.reduceAdd, Int.reduceSub]
    · simp only [zI_wI, zrI, zrL, zrR, ne_eq, true_and, and_true, true_or, or_true, not_true_eq_false, not_false_eq_true, false_and, and_false, forall_const, true_implies, false_implies, implies_true, reduceCtorEq, Int.reduceEq, Int.reduceNe, Int.reduceLT, Int.reduceLE, Int.reduceNeg, Nat.reduceEqDiff, if_true, if_false, reduceIte, Int.reduceMul, Int.reduceAdd, Int.reduceSub]
    · obtain ⟨h1, h2, h3⟩ := m u u0 u1
      exact ⟨by rw [f.i (by omega)]; exact h1, h2, fun x x0 x1 => by rw [f.i (by omega)]; exact h3 x x0 x1⟩
    · have ft : Fz maf σ σ' := (f.mono (fun a j w => by omega)).tr (k2.mono (fun a j w => by omega))
      refine q1 e N' rfl σ' ⟨ft.shp hS, ⟨?_, by omega, fun k x hx => ?_⟩, _, k1, fun t t0 t1 => ?_⟩ ft
      · rw [k2.i (by omega)]
        simp only [zI_wI, zrI, zrL, zrR, ne_eq, true_and, and_true, true_or, or_true, not_true_eq_false, not_false_eq_true, false_and, and_false, forall_const, true_implies, false_implies, implies_true, reduceCtorEq, Int.reduceEq, Int.reduceNe, Int.reduceLT, Int.reduceLE, Int.reduceNeg, Nat.reduceEqDiff, if_true, if_false, reduceIte, Int.reduceMul, Int.reduceAdd, Int.reduceSub]
      · have hk := (List.getElem?_eq_some_iff.mp hx).1
        have := hE (k + 1) x hx
        rw [show (N'.length : Int) + 1 - 1 - ((k + 1 : Nat) : Int) = (N'.length : Int) - 1 - k by omega] at this
        exact k2.mnj (by omega) (by omega) (fun x x0 x1 => by omega) (f.mnj (by omega) (by omega) (fun x x0 x1 => by omega) this)
      · unfold upS
        split
        · rfl
        · exact hM t t0 t1
