/-! lead, back: what a SUM must be; turn of the reference -/
def unL (l : List Int) : Prop := ∀ i, 0 ≤ i → i < (l.length : Int) → ga l (i + 1) < ga l i
def odL (l : List Int) : Prop := ∀ i, 0 ≤ i → i < (l.length : Int) → ga l i % 2 = 1
def muL (l : List Int) (v : Int) : Prop := ∃ i, 0 ≤ i ∧ i < (l.length : Int) ∧ ga l i % v = 0
def owL (l : List Int) : Prop := ∀ i, 0 ≤ i → i < (l.length : Int) → ga l i = colN l i
theorem t_mIsUnlike {Q : ZQ} {σ : ZM} {M : Int → List Int} {s : Int} (hS : Shp σ) (m : MS σ M) (s0 : 0 ≤ s) (s1 : s ≤ 10) (hp : Pt (M s)) (q1 : unL (M s) → Q (zi 1) σ) (q0 : ¬ unL (M s) → Q (zi 0) σ) : WP m_Mod_isUnlike 0 [zr 192, zi s, zu] [] σ (0, 0) Q := by
  obtain ⟨g1, g2, g3⟩ := m s s0 s1
  have k2 : ∀ (g : Nat) (i : Int), 1 ≤ i → (i + g = ((M s).length : Int) ∨ (g = 0 ∧ ((M s).length : Int) ≤ i)) → (∀ y, 1 ≤ y → y < i → y < ((M s).length : Int) → ga (M s) y < ga (M s) (y - 1)) → WP m_Mod_isUnlike 2 [zr 192, zi s, zi i] [] σ (0, 0) Q := by
    intro g
    induction g with
    | zero =>
      intro i i1 hi hn
      refine r_Mod_isUnlike_2 ?_
      simp only [hS, g1, zrI, zrL, zrR, Shp_wI, Shp_wJ, zR_wI, zR_wJ, zJ_wI, zI_wJ, zobj_wI, zobj_wJ, zarr_wI, zarr_wJ, zS_wI, zS_wJ, o_192, a_193, a_194, a_195, a_196, a_197, a_198, a_199, a_200, a_201, a_202, a_203, a_204, a_205, a_206, a_207, a_208, a_209, a_210, r_192_0, r_192_1, r_192_2, r_192_3, r_192_4, r_192_5, r_192_7, r_192_8, r_192_14, r_192_16, r_192_17, r_192_18, r_192_19, r_192_20, r_192_22, r_192_23, r_192_25, r_192_26, zrI, zrL, zrR, ne_eq, true_and, and_true, true_or, or_true, not_true_eq_false, not_false_eq_true, false_and, and_false, forall_const, true_implies, false_implies, implies_true, reduceCtorEq, Int.reduceEq, Int.reduceNe, Int.reduceLT, Int.reduceLE, Int.reduceNeg, Nat.reduceEqDiff, if_true, if_false, reduceIte, Int.reduceMul, Int.reduceAdd, Int.reduceSub]
      refine ⟨by omega, fun _ => q1 (fun y y0 y1 => ?_), fun c => by omega⟩
      by_cases e : y + 1 < ((M s).length : Int)
      · have := hn (y + 1) (by omega) (by omega) e
        rw [show y + 1 - 1 = y by omega] at this
        exact this
      · rw [ga_out (by omega)]
        exact hp.pos y0 y1
    | succ g ih =>
      intro i i1 hi hn
      have hmo := hp.2.2 (i - 1) i (by omega) (by omega)
      refine r_Mod_isUnlike_2 ?_
      simp only [hS, g1, zrI, zrL, zrR, Shp_wI, Shp_wJ, zR_wI, zR_wJ, zJ_wI, zI_wJ, zobj_wI, zobj_wJ, zarr_wI, zarr_wJ, zS_wI, zS_wJ, o_192, a_193, a_194, a_195, a_196, a_197, a_198, a_199, a_200, a_201, a_202, a_203, a_204, a_205, a_206, a_207, a_208, a_209, a_210, r_192_0, r_192_1, r_192_2, r_192_3, r_192_4, r_192_5, r_192_7, r_192_8, r_192_14, r_192_16, r_192_17, r_192_18, r_192_19, r_192_20, r_192_22, r_192_23, r_192_25, r_192_26, zrI, zrL, zrR, ne_eq, true_and, and_true, true_or, or_true, not_true_eq_false, not_false_eq_true, false_and, and_false, forall_const, true_implies, false_implies, implies_true, reduceCtorEq, Int.reduceEq, Int.reduceNe, Int.reduceLT, Int.reduceLE, Int.reduceNeg, Nat.reduceEqDiff, if_true, if_false, reduceIte, Int.reduceMul, Int.reduceAdd, Int.reduceSub]
      refine ⟨by omega, fun c => by omega, fun _ => t_mAt hS m s0 s1 (by omega) ?_⟩
      simp only [hS, zrI, zrL, zrR, Shp_wI, Shp_wJ, zR_wI, zR_wJ, zJ_wI, zI_wJ, zobj_wI, zobj_wJ, zarr_wI, zarr_wJ, zS_wI, zS_wJ, o_192, a_193, a_194, a_195, a_196, a_197, a_198, a_199, a_200, a_201, a_202, a_203, a_204, a_205, a_206, a_207, a_208, a_209, a_210, r_192_0, r_192_1, r_192_2, r_192_3, r_192_4, r_192_5, r_192_7, r_192_8, r_192_14, r_192_16, r_192_17, r_192_18, r_192_19, r_192_20, r_192_22, r_192_23, r_192_25, r_192_26, zrI, zrL, zrR, ne_eq, true_and, and_true, true_or, or_true, not_true_eq_false, not_false_eq_true, false_and, and_false, forall_const, true_implies, false_implies, implies_true, reduceCtorEq, Int.reduceEq, Int.reduceNe, Int.reduceLT, Int.reduceLE, Int.reduceNeg, Nat.reduceEqDiff, if_true, if_false, reduceIte, Int.reduceMul, Int.reduceAdd, Int.reduceSub]
      refine ⟨by omega, t_mAt hS m s0 s1 (by omega) ?_⟩
      simp only [zrI, zrL, zrR, ne_eq, true_and, and_true, true_or, or_true, not_true_eq_false, not_false_eq_true, false_and, and_false, forall_const, true_implies, false_implies, implies_true, reduceCtorEq, Int.reduceEq, Int.reduceNe, Int.reduceLT, Int.reduceLE, Int.reduceNeg, Nat.reduceEqDiff, if_true, if_false, reduceIte, Int.reduceMul, Int.reduceAdd, Int.reduceSub]
      refine ⟨fun c => ⟨by omega, ih (i + 1) (by omega) (by omega) (fun y y1 y2 y3 => ?_)⟩, fun c => q0 (fun w => ?_)⟩
      · by_cases e : y = i
        · rw [e]; omega
        · exact hn y y1 (by omega) y3
      · have := w (i - 1) (by omega) (by omega)
        rw [show i - 1 + 1 = i by omega] at this
        omega
  refine r_Mod_isUnlike_0 (k2 ((M s).length - 1) 1 (by omega) (by omega) (fun y y1 y2 => by omega))
theorem t_mIsOdd {Q : ZQ} {σ : ZM} {M : Int → List Int} {s : Int} (hS : Shp σ) (m : MS σ M) (s0 : 0 ≤ s) (s1 : s ≤ 10) (hp : Pt (M s)) (q1 : odL (M s) → Q (zi 1) σ) (q0 : ¬ odL (M s) → Q (zi 0) σ) : WP m_Mod_isOdd 0 [zr 192, zi s, zu] [] σ (0, 0) Q := by
  obtain ⟨g1, g2, g3⟩ := m s s0 s1
  have k2 : ∀ (g : Nat) (i : Int), 0 ≤ i → i + g = ((M s).length : Int) → (∀ y, 0 ≤ y → y < i → ga (M s) y % 2 = 1) → WP m_Mod_isOdd 2 [zr 192, zi s, zi i] [] σ (0, 0) Q := by
    intro g
    induction g with
    | zero =>
      intro i i1 hi hn
      refine r_Mod_isOdd_2 ?_
      simp only [hS, g1, zrI, zrL, zrR, Shp_wI, Shp_wJ, zR_wI, zR_wJ, zJ_wI, zI_wJ, zobj_wI, zobj_wJ, zarr_wI, zarr_wJ, zS_wI, zS_wJ, o_192, a_193, a_194, a_195, a_196, a_197, a_198, a_199, a_200, a_201, a_202, a_203, a_204, a_205, a_206, a_207, a_208, a_209, a_210, r_192_0, r_192_1, r_192_2, r_192_3, r_192_4, r_192_5, r_192_7, r_192_8, r_192_14, r_192_16, r_192_17, r_192_18, r_192_19, r_192_20, r_192_22, r_192_23, r_192_25, r_192_26, zrI, zrL, zrR, ne_eq, true_and, and_true, true_or, or_true, not_true_eq_false, not_false_eq_true, false_and, and_false, forall_const, true_implies, false_implies, implies_true, reduceCtorEq, Int.reduceEq, Int.reduceNe, Int.reduceLT, Int.reduceLE, Int.reduceNeg, Nat.reduceEqDiff, if_true, if_false, reduceIte, Int.reduceMul, Int.reduceAdd, Int.reduceSub]
      exact ⟨by omega, fun _ => q1 (fun y y0 y1 => hn y y0 (by omega)), fun c => by omega⟩
    | succ g ih =>
      intro i i1 hi hn
      have hr := hp.rng i
      have e1 : Int.tmod (ga (M s) i) 2 = ga (M s) i % 2 := Int.tmod_eq_emod_of_nonneg (by omega)
      have e2 : Int.tdiv (ga (M s) i) 2 = ga (M s) i / 2 := Int.tdiv_eq_ediv_of_nonneg (by omega)
      refine r_Mod_isOdd_2 ?_
      simp only [hS, g1, zrI, zrL, zrR, Shp_wI, Shp_wJ, zR_wI, zR_wJ, zJ_wI, zI_wJ, zobj_wI, zobj_wJ, zarr_wI, zarr_wJ, zS_wI, zS_wJ, o_192, a_193, a_194, a_195, a_196, a_197, a_198, a_199, a_200, a_201, a_202, a_203, a_204, a_205, a_206, a_207, a_208, a_209, a_210, r_192_0, r_192_1, r_192_2, r_192_3, r_192_4, r_192_5, r_192_7, r_192_8, r_192_14, r_192_16, r_192_17, r_192_18, r_192_19, r_192_20, r_192_22, r_192_23, r_192_25, r_192_26, zrI, zrL, zrR, ne_eq, true_and, and_true, true_or, or_true, not_true_eq_false, not_false_eq_true, false_and, and_false, forall_const, true_implies, false_implies, implies_true, reduceCtorEq, Int.reduceEq, Int.reduceNe, Int.reduceLT, Int.reduceLE, Int.reduceNeg, Nat.reduceEqDiff, if_true, if_false, reduceIte, Int.reduceMul, Int.reduceAdd, Int.reduceSub]
      refine ⟨by omega, fun c => by omega, fun _ => t_mAt hS m s0 s1 (by omega) ?_⟩
      simp only [e1, e2, zrI, zrL, zrR, ne_eq, true_and, and_true, true_or, or_true, not_true_eq_false, not_false_eq_true, false_and, and_false, forall_const, true_implies, false_implies, implies_true, reduceCtorEq, Int.reduceEq, Int.reduceNe, Int.reduceLT, Int.reduceLE, Int.reduceNeg, Nat.reduceEqDiff, if_true, if_false, reduceIte, Int.reduceMul, Int.reduceAdd, Int.reduceSub]
      refine ⟨by omega, fun c => ⟨by omega, ih (i + 1) (by omega) (by omega) (fun y y1 y2 => ?_)⟩, fun c => q0 (fun w => ?_)⟩
      · by_cases e : y = i
        · rw [e]; omega
        · exact hn y y1 (by omega)
      · have := w i (by omega) (by omega)
        omega
  refine r_Mod_isOdd_0 (k2 ((M s).length) 0 (by omega) (by omega) (fun y y1 y2 => by omega))
theorem t_mHasMultiple {Q : ZQ} {σ : ZM} {M : Int → List Int} {s v : Int} (hS : Shp σ) (m : MS σ M) (s0 : 0 ≤ s) (s1 : s ≤ 10) (hp : Pt (M s)) (v0 : 2 ≤ v) (v1 : v ≤ 12) (q1 : muL (M s) v → Q (zi 1) σ) (q0 : ¬ muL (M s) v → Q (zi 0) σ) : WP m_Mod_hasMultiple 0 [zr 192, zi s, zi v, zu] [] σ (0, 0) Q := by
  obtain ⟨g1, g2, g3⟩ := m s s0 s1
  have k2 : ∀ (g : Nat) (i : Int), 0 ≤ i → i + g = ((M s).length : Int) → (∀ y, 0 ≤ y → y < i → ga (M s) y % v ≠ 0) → WP m_Mod_hasMultiple 2 [zr 192, zi s, zi v, zi i] [] σ (0, 0) Q := by
    intro g
    induction g with
    | zero =>
      intro i i1 hi hn
      refine r_Mod_hasMultiple_2 ?_
      simp only [hS, g1, zrI, zrL, zrR, Shp_wI, Shp_wJ, zR_wI, zR_wJ, zJ_wI, zI_wJ, zobj_wI, zobj_wJ, zarr_wI, zarr_wJ, zS_wI, zS_wJ, o_192, a_193, a_194, a_195, a_196, a_197, a_198, a_199, a_200, a_201, a_202, a_203, a_204, a_205, a_206, a_207, a_208, a_209, a_210, r_192_0, r_192_1, r_192_2, r_192_3, r_192_4, r_192_5, r_192_7, r_192_8, r_192_14, r_192_16, r_192_17, r_192_18, r_192_19, r_192_20, r_192_22, r_192_23, r_192_25, r_192_26, zrI, zrL, zrR, ne_eq, true_and, and_true, true_or, or_true, not_true_eq_false, not_false_eq_true, false_and, and_false, forall_const, true_implies, false_implies, implies_true, reduceCtorEq, Int.reduceEq, Int.reduceNe, Int.reduceLT, Int.reduceLE, Int.reduceNeg, Nat.reduceEqDiff, if_true, if_false, reduceIte, Int.reduceMul, Int.reduceAdd, Int.reduceSub]
      exact ⟨by omega, fun _ => q0 (fun ⟨y, y0, y1, w⟩ => hn y y0 (by omega) w), fun c => by omega⟩
    | succ g ih =>
      intro i i1 hi hn
      have hr := hp.rng i
      have e1 : Int.tmod (ga (M s) i) v = ga (M s) i % v := Int.tmod_eq_emod_of_nonneg (by omega)
      have e2 : 0 ≤ Int.tdiv (ga (M s) i) v ∧ Int.tdiv (ga (M s) i) v ≤ ga (M s) i := by
        rw [Int.tdiv_eq_ediv_of_nonneg (by omega)]
        exact ⟨Int.ediv_nonneg (by omega) (by omega), Int.ediv_le_self _ (by omega)⟩
      refine r_Mod_hasMultiple_2 ?_
      simp only [hS, g1, zrI, zrL, zrR, Shp_wI, Shp_wJ, zR_wI, zR_wJ, zJ_wI, zI_wJ, zobj_wI, zobj_wJ, zarr_wI, zarr_wJ, zS_wI, zS_wJ, o_192, a_193, a_194, a_195, a_196, a_197, a_198, a_199, a_200, a_201, a_202, a_203, a_204, a_205, a_206, a_207, a_208, a_209, a_210, r_192_0, r_192_1, r_192_2, r_192_3, r_192_4, r_192_5, r_192_7, r_192_8, r_192_14, r_192_16, r_192_17, r_192_18, r_192_19, r_192_20, r_192_22, r_192_23, r_192_25, r_192_26, zrI, zrL, zrR, ne_eq, true_and, and_true, true_or, or_true, not_true_eq_false, not_false_eq_true, false_and, and_false, forall_const, true_implies, false_implies, implies_true, reduceCtorEq, Int.reduceEq, Int.reduceNe, Int.reduceLT, Int.reduceLE, Int.reduceNeg, Nat.reduceEqDiff, if_true, if_false, reduceIte, Int.reduceMul, Int.reduceAdd, Int.reduceSub]
      refine ⟨by omega, fun c => by omega, fun _ => t_mAt hS m s0 s1 (by omega) ?_⟩
      simp only [e1, zrI, zrL, zrR, ne_eq, true_and, and_true, true_or, or_true, not_true_eq_false, not_false_eq_true, false_and, and_false, forall_const, true_implies, false_implies, implies_true, reduceCtorEq, Int.reduceEq, Int.reduceNe, Int.reduceLT, Int.reduceLE, Int.reduceNeg, Nat.reduceEqDiff, if_true, if_false, reduceIte, Int.reduceMul, Int.reduceAdd, Int.reduceSub]
      refine ⟨by omega, by omega, fun c => ⟨by omega, ih (i + 1) (by omega) (by omega) (fun y y1 y2 => ?_)⟩, fun c => q1 ⟨i, i1, by omega, c⟩⟩
      by_cases e : y = i
      · rw [e]; exact c
      · exact hn y y1 (by omega)
  refine r_Mod_hasMultiple_0 (k2 ((M s).length) 0 (by omega) (by omega) (fun y y1 y2 => by omega))
theorem t_hasMultiple {Q : ZQ} {σ : ZM} {g : Nat} {l : List Int} {v : Int} (og : SumO σ g) (hl : Lz σ g l) (hp : Pt l) (v0 : 2 ≤ v) (v1 : v ≤ 12) (q1 : muL l v → Q (zi 1) σ) (q0 : ¬ muL l v → Q (zi 0) σ) : WP m_Leads_hasMultiple 0 [zr g, zi v, zu] [] σ (0, 0) Q := by
  have hl1 := hl.1
  have hlen := hp.len
  have h4 := hp.2.1
  have k2 : ∀ (e : Nat) (i : Int), 0 ≤ i → i + e = (l.length : Int) → (∀ y, 0 ≤ y → y < i → ga l y % v ≠ 0) → WP m_Leads_hasMultiple 2 [zr g, zi v, zi i] [] σ (0, 0) Q := by
    intro e
    induction e with
    | zero =>
      intro i i1 hi hn
      refine r_Leads_hasMultiple_2 ?_
      simp only [og.1, hl1, zrI, zrL, zrR, ne_eq, true_and, and_true, true_or, or_true, not_true_eq_false, not_false_eq_true, false_and, and_false, forall_const, true_implies, false_implies, implies_true, reduceCtorEq, Int.reduceEq, Int.reduceNe, Int.reduceLT, Int.reduceLE, Int.reduceNeg, Nat.reduceEqDiff, if_true, if_false, reduceIte, Int.reduceMul, Int.reduceAdd, Int.reduceSub]
      exact ⟨fun _ => q0 (fun ⟨y, y0, y1, w⟩ => hn y y0 (by omega) w), fun c => by omega⟩
    | succ e ih =>
      intro i i1 hi hn
      have hr := hp.rng i
      have e1 : Int.tmod (ga l i) v = ga l i % v := Int.tmod_eq_emod_of_nonneg (by omega)
      have e2 : 0 ≤ Int.tdiv (ga l i) v ∧ Int.tdiv (ga l i) v ≤ ga l i := by
        rw [Int.tdiv_eq_ediv_of_nonneg (by omega)]
        exact ⟨Int.ediv_nonneg (by omega) (by omega), Int.ediv_le_self _ (by omega)⟩
      refine r_Leads_hasMultiple_2 ?_
      simp only [og.1, hl1, zrI, zrL, zrR, ne_eq, true_and, and_true, true_or, or_true, not_true_eq_false, not_false_eq_true, false_and, and_false, forall_const, true_implies, false_implies, implies_true, reduceCtorEq, Int.reduceEq, Int.reduceNe, Int.reduceLT, Int.reduceLE, Int.reduceNeg, Nat.reduceEqDiff, if_true, if_false, reduceIte, Int.reduceMul, Int.reduceAdd, Int.reduceSub]
      refine ⟨fun c => by omega, fun _ => t_Sum_at og hl ?_⟩
      simp only [zrI, zrL, zrR, ne_eq, true_and, and_true, true_or, or_true, not_true_eq_false, not_false_eq_true, false_and, and_false, forall_const, true_implies, false_implies, implies_true, reduceCtorEq, Int.reduceEq, Int.reduceNe, Int.reduceLT, Int.reduceLE, Int.reduceNeg, Nat.reduceEqDiff, if_true, if_false, reduceIte, Int.reduceMul, Int.reduceAdd, Int.reduceSub]
      refine t_max ?_
      rw [show max 1 v = v by omega]
      simp only [e1, zrI, zrL, zrR, ne_eq, true_and, and_true, true_or, or_true, not_true_eq_false, not_false_eq_true, false_and, and_false, forall_const, true_implies, false_implies, implies_true, reduceCtorEq, Int.reduceEq, Int.reduceNe, Int.reduceLT, Int.reduceLE, Int.reduceNeg, Nat.reduceEqDiff, if_true, if_false, reduceIte, Int.reduceMul, Int.reduceAdd, Int.reduceSub]
      refine ⟨by omega, by omega, fun c => ⟨by omega, ih (i + 1) (by omega) (by omega) (fun y y1 y2 => ?_)⟩, fun c => q1 ⟨i, i1, by omega, c⟩⟩
      by_cases e : y = i
      · rw [e]; exact c
      · exact hn y y1 (by omega)
  exact r_Leads_hasMultiple_0 (k2 l.length 0 (by omega) (by omega) (fun y y1 y2 => by omega))
theorem t_mIsOwn {Q : ZQ} {σ : ZM} {M : Int → List Int} {s : Int} (hS : Shp σ) (m : MS σ M) (s0 : 0 ≤ s) (s1 : s ≤ 10) (hp : Pt (M s)) (q1 : owL (M s) → Q (zi 1) σ) (q0 : ¬ owL (M s) → Q (zi 0) σ) : WP m_Mod_isOwn 0 [zr 192, zi s, zu] [] σ (0, 0) Q := by
  obtain ⟨g1, g2, g3⟩ := m s s0 s1
  have k2 : ∀ (g : Nat) (i : Int), 0 ≤ i → i + g = ((M s).length : Int) → (∀ y, 0 ≤ y → y < i → ga (M s) y = colN (M s) y) → WP m_Mod_isOwn 2 [zr 192, zi s, zi i] [] σ (0, 0) Q := by
    intro g
    induction g with
    | zero =>
      intro i i1 hi hn
      refine r_Mod_isOwn_2 ?_
      simp only [hS, g1, zrI, zrL, zrR, Shp_wI, Shp_wJ, zR_wI, zR_wJ, zJ_wI, zI_wJ, zobj_wI, zobj_wJ, zarr_wI, zarr_wJ, zS_wI, zS_wJ, o_192, a_193, a_194, a_195, a_196, a_197, a_198, a_199, a_200, a_201, a_202, a_203, a_204, a_205, a_206, a_207, a_208, a_209, a_210, r_192_0, r_192_1, r_192_2, r_192_3, r_192_4, r_192_5, r_192_7, r_192_8, r_192_14, r_192_16, r_192_17, r_192_18, r_192_19, r_192_20, r_192_22, r_192_23, r_192_25, r_192_26, zrI, zrL, zrR, ne_eq, true_and, and_true, true_or, or_true, not_true_eq_false, not_false_eq_true, false_and, and_false, forall_const, true_implies, false_implies, implies_true, reduceCtorEq, Int.reduceEq, Int.reduceNe, Int.reduceLT, Int.reduceLE, Int.reduceNeg, Nat.reduceEqDiff, if_true, if_false, reduceIte, Int.reduceMul, Int.reduceAdd, Int.reduceSub]
      exact ⟨by omega, fun _ => q1 (fun y y0 y1 => hn y y0 (by omega)), fun c => by omega⟩
    | succ g ih =>
      intro i i1 hi hn
      refine r_Mod_isOwn_2 ?_
      simp only [hS, g1, zrI, zrL, zrR, Shp_wI, Shp_wJ, zR_wI, zR_wJ, zJ_wI, zI_wJ, zobj_wI, zobj_wJ, zarr_wI, zarr_wJ, zS_wI, zS_wJ, o_192, a_193, a_194, a_195, a_196, a_197, a_198, a_199, a_200, a_201, a_202, a_203, a_204, a_205, a_206, a_207, a_208, a_209, a_210, r_192_0, r_192_1, r_192_2, r_192_3, r_192_4, r_192_5, r_192_7, r_192_8, r_192_14, r_192_16, r_192_17, r_192_18, r_192_19, r_192_20, r_192_22, r_192_23, r_192_25, r_192_26, zrI, zrL, zrR, ne_eq, true_and, and_true, true_or, or_true, not_true_eq_false, not_false_eq_true, false_and, and_false, forall_const, true_implies, false_implies, implies_true, reduceCtorEq, Int.reduceEq, Int.reduceNe, Int.reduceLT, Int.reduceLE, Int.reduceNeg, Nat.reduceEqDiff, if_true, if_false, reduceIte, Int.reduceMul, Int.reduceAdd, Int.reduceSub]
      refine ⟨by omega, fun c => by omega, fun _ => t_mColumn hS m s0 s1 hp i1 ?_⟩
      simp only [hS, zrI, zrL, zrR, Shp_wI, Shp_wJ, zR_wI, zR_wJ, zJ_wI, zI_wJ, zobj_wI, zobj_wJ, zarr_wI, zarr_wJ, zS_wI, zS_wJ, o_192, a_193, a_194, a_195, a_196, a_197, a_198, a_199, a_200, a_201, a_202, a_203, a_204, a_205, a_206, a_207, a_208, a_209, a_210, r_192_0, r_192_1, r_192_2, r_192_3, r_192_4, r_192_5, r_192_7, r_192_8, r_192_14, r_192_16, r_192_17, r_192_18, r_192_19, r_192_20, r_192_22, r_192_23, r_192_25, r_192_26, zrI, zrL, zrR, ne_eq, true_and, and_true, true_or, or_true, not_true_eq_false, not_false_eq_true, false_and, and_false, forall_const, true_implies, false_implies, implies_true, reduceCtorEq, Int.reduceEq, Int.reduceNe, Int.reduceLT, Int.reduceLE, Int.reduceNeg, Nat.reduceEqDiff, if_true, if_false, reduceIte, Int.reduceMul, Int.reduceAdd, Int.reduceSub]
      refine t_mAt hS m s0 s1 i1 ?_
      simp only [zrI, zrL, zrR, ne_eq, true_and, and_true, true_or, or_true, not_true_eq_false, not_false_eq_true, false_and, and_false, forall_const, true_implies, false_implies, implies_true, reduceCtorEq, Int.reduceEq, Int.reduceNe, Int.reduceLT, Int.reduceLE, Int.reduceNeg, Nat.reduceEqDiff, if_true, if_false, reduceIte, Int.reduceMul, Int.reduceAdd, Int.reduceSub]
      refine ⟨fun c => ⟨by omega, ih (i + 1) (by omega) (by omega) (fun y y1 y2 => ?_)⟩, fun c => q0 (fun w => c (w i i1 (by omega)).symm)⟩
      by_cases e : y = i
      · rw [e]; exact c.symm
      · exact hn y y1 (by omega)
  refine r_Mod_isOwn_0 (k2 ((M s).length) 0 (by omega) (by omega) (fun y y1 y2 => by omega))
