/-! filling, reference -/
theorem t_mTakeSquare {Q : ZQ} {σ : ZM} {M : Int → List Int} {s i : Int} (hS : Shp σ) (m : MS σ M) (s0 : 0 ≤ s) (s1 : s ≤ 10) (hp : Pt (M s)) (i0 : 0 ≤ i) (i1 : i < ((M s).length : Int)) (hc : ga (M s) (i + 1) < ga (M s) i) (q : ∀ σ', MS σ' (upS M s (shr (M s) i)) → Fr mfr σ σ' → Q zu σ') : WP m_Mod_takeSquare 0 [zr 192, zi s, zi i] [] σ (0, 0) Q := by
  obtain ⟨g1, g2, g3⟩ := m s s0 s1
  have v1 := g3 i i0 i1
  have hr := hp.rng i
  have v2 : zI (wI σ 194 (400 * s + i) (ga (M s) i - 1)) 194 (400 * s + i) = ga (M s) i - 1 := by rw [zI_wI, if_pos ⟨rfl, rfl⟩]
  have v3 : zI (wI σ 194 (400 * s + i) (ga (M s) i - 1)) 195 s = ((M s).length : Int) := by rw [zI_wI, if_neg (by omega)]; exact g1
  refine r_Mod_takeSquare_0 ?_
  simp only [hS, v1, zrI, zrL, zrR, Shp_wI, Shp_wJ, zR_wI, zR_wJ, zJ_wI, zI_wJ, zobj_wI, zobj_wJ, zarr_wI, zarr_wJ, zS_wI, zS_wJ, o_192, a_193, a_194, a_195, a_196, a_197, a_198, a_199, a_200, a_201, a_202, a_203, a_204, a_205, a_206, a_207, a_208, a_209, a_210, r_192_0, r_192_1, r_192_2, r_192_3, r_192_4, r_192_5, r_192_7, r_192_8, r_192_14, r_192_16, r_192_17, r_192_18, r_192_19, r_192_20, r_192_22, r_192_23, r_192_25, r_192_26, zrI, zrL, zrR, ne_eq, true_and, and_true, true_or, or_true, not_true_eq_false, not_false_eq_true, false_and, and_false, forall_const, true_implies, false_implies, implies_true, reduceCtorEq, Int.reduceEq, Int.reduceNe, Int.reduceLT, Int.reduceLE, Int.reduceNeg, Nat.reduceEqDiff, if_true, if_false, reduceIte, Int.reduceMul, Int.reduceAdd, Int.reduceSub]
  simp only [hS, v2, v3, zrI, zrL, zrR, Shp_wI, Shp_wJ, zR_wI, zR_wJ, zJ_wI, zI_wJ, zobj_wI, zobj_wJ, zarr_wI, zarr_wJ, zS_wI, zS_wJ, o_192, a_193, a_194, a_195, a_196, a_197, a_198, a_199, a_200, a_201, a_202, a_203, a_204, a_205, a_206, a_207, a_208, a_209, a_210, r_192_0, r_192_1, r_192_2, r_192_3, r_192_4, r_192_5, r_192_7, r_192_8, r_192_14, r_192_16, r_192_17, r_192_18, r_192_19, r_192_20, r_192_22, r_192_23, r_192_25, r_192_26, zrI, zrL, zrR, ne_eq, true_and, and_true, true_or, or_true, not_true_eq_false, not_false_eq_true, false_and, and_false, forall_const, true_implies, false_implies, implies_true, reduceCtorEq, Int.reduceEq, Int.reduceNe, Int.reduceLT, Int.reduceLE, Int.reduceNeg, Nat.reduceEqDiff, if_true, if_false, reduceIte, Int.reduceMul, Int.reduceAdd, Int.reduceSub]
  have f1 : Fr mfr σ (wI σ 194 (400 * s + i) (ga (M s) i - 1)) := Fr.wI (Or.inl rfl)
  have other : ∀ u : Int, 0 ≤ u → u ≤ 10 → u ≠ s → ∀ j : Int, 0 ≤ j → j < ((M u).length : Int) → zI (wI σ 194 (400 * s + i) (ga (M s) i - 1)) 194 (400 * u + j) = ga (M u) j := fun u u0 u1 ne j j0 j1 => by
    obtain ⟨k1, k2, k3⟩ := m u u0 u1
    rw [zI_wI, if_neg (by omega)]
    exact k3 j j0 j1
  have A : ga (M s) i ≠ 1 → Q zu (wI σ 194 (400 * s + i) (ga (M s) i - 1)) := fun c => by
    refine q _ (fun u u0 u1 => ?_) f1
    unfold upS
    by_cases e : u = s
    · subst e
      rw [if_pos rfl]
      unfold shr
      rw [if_neg c]
      refine ⟨by rw [List.length_set]; exact v3, by rw [List.length_set]; exact g2, fun j j0 j1 => ?_⟩
      rw [List.length_set] at j1
      rw [ga_set (by omega), show ((i.toNat : Nat) : Int) = i by omega, zI_wI]
      by_cases ej : j = i
      · rw [if_pos ⟨rfl, by omega⟩, if_pos ej]
      · rw [if_neg (by omega), if_neg ej]
        exact g3 j j0 j1
    · rw [if_neg e]
      obtain ⟨k1, k2, k3⟩ := m u u0 u1
      exact ⟨by rw [zI_wI, if_neg (by omega)]; exact k1, k2, other u u0 u1 e⟩
  have B : ga (M s) i = 1 → Q zu (wI (wI σ 194 (400 * s + i) (ga (M s) i - 1)) 195 s (((M s).length : Int) - 1)) := fun c => by
    have hi : i + 1 = ((M s).length : Int) := by
      rcases Int.lt_or_le (i + 1) ((M s).length : Int) with w | w
      · have := hp.pos (i := i + 1) (by omega) w
        omega
      · omega
    refine q _ (fun u u0 u1 => ?_) (f1.tr (Fr.wI (Or.inr rfl)))
    unfold upS
    by_cases e : u = s
    · subst e
      rw [if_pos rfl]
      unfold shr
      rw [if_pos c, List.length_take]
      refine ⟨by rw [zI_wI, if_pos ⟨rfl, rfl⟩]; omega, by omega, fun j j0 j1 => ?_⟩
      rw [zI_wI, if_neg (by omega), zI_wI, if_neg (by omega), ga_take, if_pos (by omega)]
      exact g3 j j0 (by omega)
    · rw [if_neg e]
      obtain ⟨k1, k2, k3⟩ := m u u0 u1
      refine ⟨by rw [zI_wI, if_neg (by omega), zI_wI, if_neg (by omega)]; exact k1, k2, fun j j0 j1 => ?_⟩
      rw [zI_wI, if_neg (by omega)]
      exact other u u0 u1 e j j0 j1
  clear other
  refine ⟨by omega, by omega, by omega, by omega, by omega, by omega, by omega, by omega, fun c => A (by omega), fun c => ⟨by omega, by omega, by omega, B (by omega)⟩⟩
abbrev mwq (a : Nat) : Prop := a = 194 ∨ a = 195 ∨ a = 207
theorem t_mWithout {Q : ZQ} {σ : ZM} {M : Int → List Int} {i : Int} (hS : Shp σ) (m : MS σ M) (hp : Pt (M 9)) (hs : (M 9).sum ≤ 30) (i0 : 0 ≤ i) (i1 : i < ((M 9).length : Int)) (hc : ga (M 9) (i + 1) < ga (M 9) i) (q : ∀ σ', MS σ' (upS (upS M 10 (M 9)) 10 (shr (M 9) i)) → Fr mwq σ σ' → Q (zl (Int64.ofInt (FN (shr (M 9) i) : Int))) σ') : WP m_Mod_without 0 [zr 192, zi i] [] σ (0, 0) Q := by
  have ps := Pt_shr (M 9) hp i.toNat (by rw [show ((i.toNat : Nat) : Int) = i by omega]; exact hc)
  rw [show ((i.toNat : Nat) : Int) = i by omega] at ps
  refine r_Mod_without_0 ?_
  simp only [hS, zrI, zrL, zrR, Shp_wI, Shp_wJ, zR_wI, zR_wJ, zJ_wI, zI_wJ, zobj_wI, zobj_wJ, zarr_wI, zarr_wJ, zS_wI, zS_wJ, o_192, a_193, a_194, a_195, a_196, a_197, a_198, a_199, a_200, a_201, a_202, a_203, a_204, a_205, a_206, a_207, a_208, a_209, a_210, r_192_0, r_192_1, r_192_2, r_192_3, r_192_4, r_192_5, r_192_7, r_192_8, r_192_14, r_192_16, r_192_17, r_192_18, r_192_19, r_192_20, r_192_22, r_192_23, r_192_25, r_192_26, zrI, zrL, zrR, ne_eq, true_and, and_true, true_or, or_true, not_true_eq_false, not_false_eq_true, false_and, and_false, forall_const, true_implies, false_implies, implies_true, reduceCtorEq, Int.reduceEq, Int.reduceNe, Int.reduceLT, Int.reduceLE, Int.reduceNeg, Nat.reduceEqDiff, if_true, if_false, reduceIte, Int.reduceMul, Int.reduceAdd, Int.reduceSub]
  refine t_mGive hS m (by omega) (by omega) (by omega) (by omega) (fun τ w1 w2 => ?_)
  have hT := w2.shp hS
  have e10 : upS M 10 (M 9) 10 = M 9 := upS_same
  simp only [hT, zrI, zrL, zrR, Shp_wI, Shp_wJ, zR_wI, zR_wJ, zJ_wI, zI_wJ, zobj_wI, zobj_wJ, zarr_wI, zarr_wJ, zS_wI, zS_wJ, o_192, a_193, a_194, a_195, a_196, a_197, a_198, a_199, a_200, a_201, a_202, a_203, a_204, a_205, a_206, a_207, a_208, a_209, a_210, r_192_0, r_192_1, r_192_2, r_192_3, r_192_4, r_192_5, r_192_7, r_192_8, r_192_14, r_192_16, r_192_17, r_192_18, r_192_19, r_192_20, r_192_22, r_192_23, r_192_25, r_192_26, zrI, zrL, zrR, ne_eq, true_and, and_true, true_or, or_true, not_true_eq_false, not_false_eq_true, false_and, and_false, forall_const, true_implies, false_implies, implies_true, reduceCtorEq, Int.reduceEq, Int.reduceNe, Int.reduceLT, Int.reduceLE, Int.reduceNeg, Nat.reduceEqDiff, if_true, if_false, reduceIte, Int.reduceMul, Int.reduceAdd, Int.reduceSub]
  refine t_mTakeSquare hT w1 (by omega) (by omega) (by rw [e10]; exact hp) i0 (by rw [e10]; exact i1) (by rw [e10]; exact hc) (fun υ j1 j2 => ?_)
  rw [e10] at j1
  have hU := j2.shp hT
  have e11 : upS (upS M 10 (M 9)) 10 (shr (M 9) i) 10 = shr (M 9) i := upS_same
  simp only [hU, zrI, zrL, zrR, Shp_wI, Shp_wJ, zR_wI, zR_wJ, zJ_wI, zI_wJ, zobj_wI, zobj_wJ, zarr_wI, zarr_wJ, zS_wI, zS_wJ, o_192, a_193, a_194, a_195, a_196, a_197, a_198, a_199, a_200, a_201, a_202, a_203, a_204, a_205, a_206, a_207, a_208, a_209, a_210, r_192_0, r_192_1, r_192_2, r_192_3, r_192_4, r_192_5, r_192_7, r_192_8, r_192_14, r_192_16, r_192_17, r_192_18, r_192_19, r_192_20, r_192_22, r_192_23, r_192_25, r_192_26, zrI, zrL, zrR, ne_eq, true_and, and_true, true_or, or_true, not_true_eq_false, not_false_eq_true, false_and, and_false, forall_const, true_implies, false_implies, implies_true, reduceCtorEq, Int.reduceEq, Int.reduceNe, Int.reduceLT, Int.reduceLE, Int.reduceNeg, Nat.reduceEqDiff, if_true, if_false, reduceIte, Int.reduceMul, Int.reduceAdd, Int.reduceSub]
  refine t_mFillingsOf hU j1 (by omega) (by omega) (by rw [e11]; exact ps.1) (by rw [e11]; omega) (fun ξ k1 => ?_)
  rw [e11, fj_FN]
  simp only [zrI, zrL, zrR, ne_eq, true_and, and_true, true_or, or_true, not_true_eq_false, not_false_eq_true, false_and, and_false, forall_const, true_implies, false_implies, implies_true, reduceCtorEq, Int.reduceEq, Int.reduceNe, Int.reduceLT, Int.reduceLE, Int.reduceNeg, Nat.reduceEqDiff, if_true, if_false, reduceIte, Int.reduceMul, Int.reduceAdd, Int.reduceSub]
  exact q ξ (k1.ms (by omega) (by omega) j1) (((w2.tr j2).mono (fun a w => by omega)).tr (k1.mono (fun a w => by omega)))
theorem t_mFilling_70 {Q : ZQ} {σ : ZM} {S : Int → List Int} {v : Int} (hS : Shp σ) (v1 : 1 ≤ v) : ∀ (k : Nat) (l : List Int) (x : Int) (M : Int → List Int) (τ : ZM) (u1 u2 u8 u9 u10 u11 : PV), l.sum = v + k → Pt l → l.sum ≤ 30 → MS τ M → M 9 = l → (∀ s, 0 ≤ s → s ≤ 7 → M s = S s) → 0 ≤ x → x < (FN l : Int) → Fr mwq σ τ → (∀ r, FlR (k + 1) l x r → ∀ σ' M', MS σ' M' → (∀ s, 0 ≤ s → s ≤ 7 → M' s = S s) → Fr mwq σ σ' → Q (zi r) σ') → WP m_Mod_filling 70 [zr 192, u1, u2, zu, zi v, zl (Int64.ofInt x), zu, zi l.sum, u8, u9, u10, u11] [] τ (0, 0) Q := by
  intro k
  induction k with
  | zero =>
    intro l x M τ u1 u2 u8 u9 u10 u11 hk hp hs m e9 hM x0 x1 f1 q
    have fin : Unit → ∀ i y, Pk l x i y → ∀ υ M', MS υ M' → M' 9 = l → (∀ s, 0 ≤ s → s ≤ 7 → M' s = S s) → Fr mwq σ υ → (l.sum ≠ v → False) ∧ (l.sum = v → Q (zi i) υ) := fun _ i y hpk υ M' m' e9' hM' f => ⟨fun w => w (hk.trans (Int.add_zero v)), fun _ => q i ⟨i, y, hpk, fun _ => rfl, fun w => (Nat.not_succ_le_zero 0 w).elim⟩ υ M' m' hM' f⟩
    have hlen := hp.len
    have br := branch hp hs (by omega)
    have hF := (FN_ok hp hs).2.2
    have k76 : ∀ (e i : Nat) (u10 u11 : PV) (υ : ZM) (M' : Int → List Int), i + e = l.length → 0 ≤ x - sm (cwF l) i → MS υ M' → M' 9 = l → (∀ s, 0 ≤ s → s ≤ 7 → M' s = S s) → Fr mwq σ υ → WP m_Mod_filling 76 [zr 192, u1, u2, zu, zi v, zl (Int64.ofInt (x - sm (cwF l) i)), zu, zi l.sum, zi (-1), zi (i : Int), u10, u11] [] υ (0, 0) Q := by
      intro e
      induction e with
      | zero =>
        intro i u10 u11 υ M' hi hy mU e9U hMU fU
        rw [show i = l.length by omega] at hy
        omega
      | succ e ih =>
        intro i u10 u11 υ M' hi hy mU e9U hMU fU
        have hU := fU.shp hS
        have g1 := (mU 9 (by omega) (by omega)).1
        rw [e9U] at g1
        have es : sm (cwF l) (i + 1) = sm (cwF l) i + cwF l (i : Int) := rfl
        have sge := sm_ge0 (f := cwF l) i (fun j _ _ => cwF_ge l j)
        refine r_Mod_filling_76 ?_
        simp only [hU, g1, zrI, zrL, zrR, Shp_wI, Shp_wJ, zR_wI, zR_wJ, zJ_wI, zI_wJ, zobj_wI, zobj_wJ, zarr_wI, zarr_wJ, zS_wI, zS_wJ, o_192, a_193, a_194, a_195, a_196, a_197, a_198, a_199, a_200, a_201, a_202, a_203, a_204, a_205, a_206, a_207, a_208, a_209, a_210, r_192_0, r_192_1, r_192_2, r_192_3, r_192_4, r_192_5, r_192_7, r_192_8, r_192_14, r_192_16, r_192_17, r_192_18, r_192_19, r_192_20, r_192_22, r_192_23, r_192_25, r_192_26, zrI, zrL, zrR, ne_eq, true_and, and_true, true_or, or_true, not_true_eq_false, not_false_eq_true, false_and, and_false, forall_const, true_implies, false_implies, implies_true, reduceCtorEq, Int.reduceEq, Int.reduceNe, Int.reduceLT, Int.reduceLE, Int.reduceNeg, Nat.reduceEqDiff, if_true, if_false, reduceIte, Int.reduceMul, Int.reduceAdd, Int.reduceSub]
        refine ⟨fun w => by omega, fun _ => t_mAt hU mU (by omega) (by omega) (by omega) ?_⟩
        rw [e9U]
        simp only [hU, zrI, zrL, zrR, Shp_wI, Shp_wJ, zR_wI, zR_wJ, zJ_wI, zI_wJ, zobj_wI, zobj_wJ, zarr_wI, zarr_wJ, zS_wI, zS_wJ, o_192, a_193, a_194, a_195, a_196, a_197, a_198, a_199, a_200, a_201, a_202, a_203, a_204, a_205, a_206, a_207, a_208, a_209, a_210, r_192_0, r_192_1, r_192_2, r_192_3, r_192_4, r_192_5, r_192_7, r_192_8, r_192_14, r_192_16, r_192_17, r_192_18, r_192_19, r_192_20, r_192_22, r_192_23, r_192_25, r_192_26, zrI, zrL, zrR, ne_eq, true_and, and_true, true_or, or_true, not_true_eq_false, not_false_eq_true, false_and, and_false, forall_const, true_implies, false_implies, implies_true, reduceCtorEq, Int.reduceEq, Int.reduceNe, Int.reduceLT, Int.reduceLE, Int.reduceNeg, Nat.reduceEqDiff, if_true, if_false, reduceIte, Int.reduceMul, Int.reduceAdd, Int.reduceSub]
        refine ⟨by omega, t_mAt hU mU (by omega) (by omega) (by omega) ?_⟩
        rw [e9U]
        simp only [hU, zrI, zrL, zrR, Shp_wI, Shp_wJ, zR_wI, zR_wJ, zJ_wI, zI_wJ, zobj_wI, zobj_wJ, zarr_wI, zarr_wJ, zS_wI, zS_wJ, o_192, a_193, a_194, a_195, a_196, a_197, a_198, a_199, a_200, a_201, a_202, a_203, a_204, a_205, a_206, a_207, a_208, a_209, a_210, r_192_0, r_192_1, r_192_2, r_192_3, r_192_4, r_192_5, r_192_7, r_192_8, r_192_14, r_192_16, r_192_17, r_192_18, r_192_19, r_192_20, r_192_22, r_192_23, r_192_25, r_192_26, zrI, zrL, zrR, ne_eq, true_and, and_true, true_or, or_true, not_true_eq_false, not_false_eq_true, false_and, and_false, forall_const, true_implies, false_implies, implies_true, reduceCtorEq, Int.reduceEq, Int.reduceNe, Int.reduceLT, Int.reduceLE, Int.reduceNeg, Nat.reduceEqDiff, if_true, if_false, reduceIte, Int.reduceMul, Int.reduceAdd, Int.reduceSub]
        have mono := hp.2.2 (i : Int) ((i : Int) + 1) (by omega) (by omega)
        refine ⟨fun c => ?_, fun c => ⟨by omega, ?_⟩⟩
        · have c' : ga l ((i : Int) + 1) < ga l (i : Int) := by omega
          have ec : cwF l (i : Int) = (FN (shr l (i : Int)) : Int) := by unfold cwF; rw [if_pos c']
          have ps := Pt_shr l hp i c'
          have oF := (FN_ok ps.1 (by omega)).2.2
          refine t_mWithout hU mU (by rw [e9U]; exact hp) (by rw [e9U]; exact hs) (by omega) (by rw [e9U]; omega) (by rw [e9U]; exact c') (fun ξ j1 j2 => ?_)
          rw [e9U] at j1 ⊢
          have f2 := fU.tr j2
          have hX := f2.shp hS
          have e9X : upS (upS M' 10 l) 10 (shr l (i : Int)) 9 = l := by unfold upS; rw [if_neg (by omega), if_neg (by omega)]; exact e9U
          have hMX : ∀ s, 0 ≤ s → s ≤ 7 → upS (upS M' 10 l) 10 (shr l (i : Int)) s = S s := fun s s0 s1 => by unfold upS; rw [if_neg (by omega), if_neg (by omega)]; exact hMU s s0 s1
          have g1X := (j1 9 (by omega) (by omega)).1
          rw [e9X] at g1X
          have lt := zlcmp_lt (x := Int64.ofInt (x - sm (cwF l) i)) (y := Int64.ofInt (FN (shr l (i : Int)) : Int))
          rw [i64 hy (by omega), i64 (by omega) (by omega)] at lt
          simp only [zrI, zrL, zrR, ne_eq, true_and, and_true, true_or, or_true, not_true_eq_false, not_false_eq_true, false_and, and_false, forall_const, true_implies, false_implies, implies_true, reduceCtorEq, Int.reduceEq, Int.reduceNe, Int.reduceLT, Int.reduceLE, Int.reduceNeg, Nat.reduceEqDiff, if_true, if_false, reduceIte, Int.reduceMul, Int.reduceAdd, Int.reduceSub]
          refine ⟨fun w => ⟨by omega, ?_⟩, fun w => ⟨by omega, ?_⟩⟩
          · have ge : (FN (shr l (i : Int)) : Int) ≤ x - sm (cwF l) i := by
              rcases Int.lt_or_le (x - sm (cwF l) i) (FN (shr l (i : Int)) : Int) with v | v
              · have := lt.mpr v
                omega
              · exact v
            rw [← Int64.ofInt_sub]
            have := ih (i + 1) (zl (Int64.ofInt (FN (shr l (i : Int)) : Int))) zu ξ _ (by omega) (by omega) j1 e9X hMX f2
            rw [Int.natCast_succ, show x - sm (cwF l) (i + 1) = x - sm (cwF l) i - (FN (shr l (i : Int)) : Int) by omega] at this
            exact this
          · have vv := lt.mp w
            have pk : Pk l x (i : Int) (x - sm (cwF l) i) := ⟨by omega, by omega, c', by rw [Int.toNat_natCast], hy, vv⟩
            clear ih
            refine r_Mod_filling_76 ?_
            simp only [hX, g1X, zrI, zrL, zrR, Shp_wI, Shp_wJ, zR_wI, zR_wJ, zJ_wI, zI_wJ, zobj_wI, zobj_wJ, zarr_wI, zarr_wJ, zS_wI, zS_wJ, o_192, a_193, a_194, a_195, a_196, a_197, a_198, a_199, a_200, a_201, a_202, a_203, a_204, a_205, a_206, a_207, a_208, a_209, a_210, r_192_0, r_192_1, r_192_2, r_192_3, r_192_4, r_192_5, r_192_7, r_192_8, r_192_14, r_192_16, r_192_17, r_192_18, r_192_19, r_192_20, r_192_22, r_192_23, r_192_25, r_192_26, zrI, zrL, zrR, ne_eq, true_and, and_true, true_or, or_true, not_true_eq_false, not_false_eq_true, false_and, and_false, forall_const, true_implies, false_implies, implies_true, reduceCtorEq, Int.reduceEq, Int.reduceNe, Int.reduceLT, Int.reduceLE, Int.reduceNeg, Nat.reduceEqDiff, if_true, if_false, reduceIte, Int.reduceMul, Int.reduceAdd, Int.reduceSub]
            have fx := fin () (i : Int) _ pk ξ _ j1 e9X hMX f2
            refine ⟨fun _ => ⟨fun w => (fx.1 w).elim, fun w => fx.2 w⟩, fun _ => ⟨fun w => (fx.1 w).elim, fun w => fx.2 w⟩⟩
        · have ec : cwF l (i : Int) = 0 := by unfold cwF; rw [if_neg (by omega)]
          have := ih (i + 1) u10 u11 υ M' (by omega) (by omega) mU e9U hMU fU
          rw [Int.natCast_succ, es, ec, Int.add_zero] at this
          exact this
    refine r_Mod_filling_70 ?_
    have := k76 l.length 0 u10 u11 τ M (by omega) (by show 0 ≤ x - 0; omega) m e9 hM f1
    rw [show x - sm (cwF l) 0 = x from Int.sub_zero x] at this
    exact this
  | succ k ihk =>
    intro l x M τ u1 u2 u8 u9 u10 u11 hk hp hs m e9 hM x0 x1 f1 q
    have fin : Unit → ∀ i y, Pk l x i y → ∀ υ M' (u9 u10 u11 : PV), MS υ M' → M' 9 = l → (∀ s, 0 ≤ s → s ≤ 7 → M' s = S s) → Fr mwq σ υ → WP m_Mod_takeSquare 0 [zr 192, zi 9, zi i] [] υ (0, 0) (fun _ σ2 => (-2147483648 ≤ l.sum + (-1) ∧ l.sum + (-1) ≤ 2147483647) ∧ WP m_Mod_filling 70 [zr 192, u1, u2, zu, zi v, zl (Int64.ofInt y), zu, zi (l.sum + (-1)), zi i, u9, u10, u11] [] σ2 (0, 0) Q) := fun _ i y hpk υ M' u9 u10 u11 m' e9' hM' f => by
      have hpk' := hpk
      obtain ⟨i0, i1, ic, ey, y0, y1⟩ := hpk'
      have ps := Pt_shr l hp i.toNat (by rw [show ((i.toNat : Nat) : Int) = i by omega]; exact ic)
      rw [show ((i.toNat : Nat) : Int) = i by omega] at ps
      refine t_mTakeSquare (f.shp hS) m' (by omega) (by omega) (by rw [e9']; exact hp) i0 (by rw [e9']; exact i1) (by rw [e9']; exact ic) (fun ξ j1 j2 => ⟨by omega, ?_⟩)
      rw [e9'] at j1
      have := ihk (shr l i) y (upS M' 9 (shr l i)) ξ u1 u2 (zi i) u9 u10 u11 (by omega) ps.1 (by omega) j1 upS_same (fun s s0 s1 => by unfold upS; rw [if_neg (by omega)]; exact hM' s s0 s1) y0 y1 (f.tr (j2.mono (fun a w => by omega))) (fun r hr σ' M'' m'' hM'' f' => q r ⟨i, y, hpk, fun w => by omega, fun _ => hr⟩ σ' M'' m'' hM'' f')
      rw [ps.2.1, show l.sum - 1 = l.sum + -1 by omega] at this
      exact this
    clear ihk
    have hlen := hp.len
    have br := branch hp hs (by omega)
    have hF := (FN_ok hp hs).2.2
    have k76 : ∀ (e i : Nat) (u10 u11 : PV) (υ : ZM) (M' : Int → List Int), i + e = l.length → 0 ≤ x - sm (cwF l) i → MS υ M' → M' 9 = l → (∀ s, 0 ≤ s → s ≤ 7 → M' s = S s) → Fr mwq σ υ → WP m_Mod_filling 76 [zr 192, u1, u2, zu, zi v, zl (Int64.ofInt (x - sm (cwF l) i)), zu, zi l.sum, zi (-1), zi (i : Int), u10, u11] [] υ (0, 0) Q := by
      intro e
      induction e with
      | zero =>
        intro i u10 u11 υ M' hi hy mU e9U hMU fU
        rw [show i = l.length by omega] at hy
        omega
      | succ e ih =>
        intro i u10 u11 υ M' hi hy mU e9U hMU fU
        have hU := fU.shp hS
        have g1 := (mU 9 (by omega) (by omega)).1
        rw [e9U] at g1
        have es : sm (cwF l) (i + 1) = sm (cwF l) i + cwF l (i : Int) := rfl
        have sge := sm_ge0 (f := cwF l) i (fun j _ _ => cwF_ge l j)
        refine r_Mod_filling_76 ?_
        simp only [hU, g1, zrI, zrL, zrR, Shp_wI, Shp_wJ, zR_wI, zR_wJ, zJ_wI, zI_wJ, zobj_wI, zobj_wJ, zarr_wI, zarr_wJ, zS_wI, zS_wJ, o_192, a_193, a_194, a_195, a_196, a_197, a_198, a_199, a_200, a_201, a_202, a_203, a_204, a_205, a_206, a_207, a_208, a_209, a_210, r_192_0, r_192_1, r_192_2, r_192_3, r_192_4, r_192_5, r_192_7, r_192_8, r_192_14, r_192_16, r_192_17, r_192_18, r_192_19, r_192_20, r_192_22, r_192_23, r_192_25, r_192_26, zrI, zrL, zrR, ne_eq, true_and, and_true, true_or, or_true, not_true_eq_false, not_false_eq_true, false_and, and_false, forall_const, true_implies, false_implies, implies_true, reduceCtorEq, Int.reduceEq, Int.reduceNe, Int.reduceLT, Int.reduceLE, Int.reduceNeg, Nat.reduceEqDiff, if_true, if_false, reduceIte, Int.reduceMul, Int.reduceAdd, Int.reduceSub]
        refine ⟨fun w => by omega, fun _ => t_mAt hU mU (by omega) (by omega) (by omega) ?_⟩
        rw [e9U]
        simp only [hU, zrI, zrL, zrR, Shp_wI, Shp_wJ, zR_wI, zR_wJ, zJ_wI, zI_wJ, zobj_wI, zobj_wJ, zarr_wI, zarr_wJ, zS_wI, zS_wJ, o_192, a_193, a_194, a_195, a_196, a_197, a_198, a_199, a_200, a_201, a_202, a_203, a_204, a_205, a_206, a_207, a_208, a_209, a_210, r_192_0, r_192_1, r_192_2, r_192_3, r_192_4, r_192_5, r_192_7, r_192_8, r_192_14, r_192_16, r_192_17, r_192_18, r_192_19, r_192_20, r_192_22, r_192_23, r_192_25, r_192_26, zrI, zrL, zrR, ne_eq, true_and, and_true, true_or, or_true, not_true_eq_false, not_false_eq_true, false_and, and_false, forall_const, true_implies, false_implies, implies_true, reduceCtorEq, Int.reduceEq, Int.reduceNe, Int.reduceLT, Int.reduceLE, Int.reduceNeg, Nat.reduceEqDiff, if_true, if_false, reduceIte, Int.reduceMul, Int.reduceAdd, Int.reduceSub]
        refine ⟨by omega, t_mAt hU mU (by omega) (by omega) (by omega) ?_⟩
        rw [e9U]
        simp only [hU, zrI, zrL, zrR, Shp_wI, Shp_wJ, zR_wI, zR_wJ, zJ_wI, zI_wJ, zobj_wI, zobj_wJ, zarr_wI, zarr_wJ, zS_wI, zS_wJ, o_192, a_193, a_194, a_195, a_196, a_197, a_198, a_199, a_200, a_201, a_202, a_203, a_204, a_205, a_206, a_207, a_208, a_209, a_210, r_192_0, r_192_1, r_192_2, r_192_3, r_192_4, r_192_5, r_192_7, r_192_8, r_192_14, r_192_16, r_192_17, r_192_18, r_192_19, r_192_20, r_192_22, r_192_23, r_192_25, r_192_26, zrI, zrL, zrR, ne_eq, true_and, and_true, true_or, or_true, not_true_eq_false, not_false_eq_true, false_and, and_false, forall_const, true_implies, false_implies, implies_true, reduceCtorEq, Int.reduceEq, Int.reduceNe, Int.reduceLT, Int.reduceLE, Int.reduceNeg, Nat.reduceEqDiff, if_true, if_false, reduceIte, Int.reduceMul, Int.reduceAdd, Int.reduceSub]
        have mono := hp.2.2 (i : Int) ((i : Int) + 1) (by omega) (by omega)
        refine ⟨fun c => ?_, fun c => ⟨by omega, ?_⟩⟩
        · have c' : ga l ((i : Int) + 1) < ga l (i : Int) := by omega
          have ec : cwF l (i : Int) = (FN (shr l (i : Int)) : Int) := by unfold cwF; rw [if_pos c']
          have ps := Pt_shr l hp i c'
          have oF := (FN_ok ps.1 (by omega)).2.2
          refine t_mWithout hU mU (by rw [e9U]; exact hp) (by rw [e9U]; exact hs) (by omega) (by rw [e9U]; omega) (by rw [e9U]; exact c') (fun ξ j1 j2 => ?_)
          rw [e9U] at j1 ⊢
          have f2 := fU.tr j2
          have hX := f2.shp hS
          have e9X : upS (upS M' 10 l) 10 (shr l (i : Int)) 9 = l := by unfold upS; rw [if_neg (by omega), if_neg (by omega)]; exact e9U
          have hMX : ∀ s, 0 ≤ s → s ≤ 7 → upS (upS M' 10 l) 10 (shr l (i : Int)) s = S s := fun s s0 s1 => by unfold upS; rw [if_neg (by omega), if_neg (by omega)]; exact hMU s s0 s1
          have g1X := (j1 9 (by omega) (by omega)).1
          rw [e9X] at g1X
          have lt := zlcmp_lt (x := Int64.ofInt (x - sm (cwF l) i)) (y := Int64.ofInt (FN (shr l (i : Int)) : Int))
          rw [i64 hy (by omega), i64 (by omega) (by omega)] at lt
          simp only [zrI, zrL, zrR, ne_eq, true_and, and_true, true_or, or_true, not_true_eq_false, not_false_eq_true, false_and, and_false, forall_const, true_implies, false_implies, implies_true, reduceCtorEq, Int.reduceEq, Int.reduceNe, Int.reduceLT, Int.reduceLE, Int.reduceNeg, Nat.reduceEqDiff, if_true, if_false, reduceIte, Int.reduceMul, Int.reduceAdd, Int.reduceSub]
          refine ⟨fun w => ⟨by omega, ?_⟩, fun w => ⟨by omega, ?_⟩⟩
          · have ge : (FN (shr l (i : Int)) : Int) ≤ x - sm (cwF l) i := by
              rcases Int.lt_or_le (x - sm (cwF l) i) (FN (shr l (i : Int)) : Int) with v | v
              · have := lt.mpr v
                omega
              · exact v
            rw [← Int64.ofInt_sub]
            have := ih (i + 1) (zl (Int64.ofInt (FN (shr l (i : Int)) : Int))) zu ξ _ (by omega) (by omega) j1 e9X hMX f2
            rw [Int.natCast_succ, show x - sm (cwF l) (i + 1) = x - sm (cwF l) i - (FN (shr l (i : Int)) : Int) by omega] at this
            exact this
          · have vv := lt.mp w
            have pk : Pk l x (i : Int) (x - sm (cwF l) i) := ⟨by omega, by omega, c', by rw [Int.toNat_natCast], hy, vv⟩
            clear ih
            refine r_Mod_filling_76 ?_
            simp only [hX, g1X, zrI, zrL, zrR, Shp_wI, Shp_wJ, zR_wI, zR_wJ, zJ_wI, zI_wJ, zobj_wI, zobj_wJ, zarr_wI, zarr_wJ, zS_wI, zS_wJ, o_192, a_193, a_194, a_195, a_196, a_197, a_198, a_199, a_200, a_201, a_202, a_203, a_204, a_205, a_206, a_207, a_208, a_209, a_210, r_192_0, r_192_1, r_192_2, r_192_3, r_192_4, r_192_5, r_192_7, r_192_8, r_192_14, r_192_16, r_192_17, r_192_18, r_192_19, r_192_20, r_192_22, r_192_23, r_192_25, r_192_26, zrI, zrL, zrR, ne_eq, true_and, and_true, true_or, or_true, not_true_eq_false, not_false_eq_true, false_and, and_false, forall_const, true_implies, false_implies, implies_true, reduceCtorEq, Int.reduceEq, Int.reduceNe, Int.reduceLT, Int.reduceLE, Int.reduceNeg, Nat.reduceEqDiff, if_true, if_false, reduceIte, Int.reduceMul, Int.reduceAdd, Int.reduceSub]
            have fx := fin () (i : Int) _ pk ξ _ (zi ((i : Int) + 1)) (zl (Int64.ofInt (FN (shr l (i : Int)) : Int))) zu j1 e9X hMX f2
            refine ⟨fun _ => ⟨fun _ => fx, fun w => by omega⟩, fun _ => ⟨fun _ => fx, fun w => by omega⟩⟩
        · have ec : cwF l (i : Int) = 0 := by unfold cwF; rw [if_neg (by omega)]
          have := ih (i + 1) u10 u11 υ M' (by omega) (by omega) mU e9U hMU fU
          rw [Int.natCast_succ, es, ec, Int.add_zero] at this
          exact this
    refine r_Mod_filling_70 ?_
    have := k76 l.length 0 u10 u11 τ M (by omega) (by show 0 ≤ x - 0; omega) m e9 hM f1
    rw [show x - sm (cwF l) 0 = x from Int.sub_zero x] at this
    exact this
