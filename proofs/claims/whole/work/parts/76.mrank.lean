/-! rank, tell, of the reference -/
/-- what the walk needs of the reference's tables -/
def MRd (σ : ZM) (w : LW) : Prop := (w 0 ≠ 3 → MTab σ w) ∧ (w 0 = 3 → MBoxV σ)
theorem Fz.mrd {P : Nat → Int → Prop} {σ σ' : ZM} (f : Fz P σ σ') {w : LW} (hP : ∀ a j, a = 199 ∨ a = 200 ∨ a = 201 → ¬ P a j) (m : MRd σ w) : MRd σ' w :=
  ⟨fun h => f.mtab (fun j => hP _ _ (by omega)) (fun j => hP _ _ (by omega)) (m.1 h), fun h p q r a b c => (f.j (hP _ _ (by omega))).trans (m.2 h p q r a b c)⟩
theorem t_mWays165 {Q : ZQ} {σ : ZM} {L : Int → LW} {l : Int} {n v had : Nat} (hS : Shp σ) (mL : MLaw σ L) (l0 : 0 ≤ l) (l1 : l ≤ 7) (hk : L l 0 = 0 ∨ L l 0 = 1) (mT : MTab σ (L l)) (hv : 1 ≤ v) (hvn : v ≤ n) (n4 : n ≤ 400) (hh : had ≤ 400) (u3 u4 u5 : PV) (q : Q (zl (Int64.ofNat (runs (TB (alB (L l)) (capN (L l)) (v - 1)) v n (capN (L l) - had)))) σ) : WP m_Mod_ways 165 [zr 192, zi l, zi (v : Int), u3, u4, u5, zi (n : Int), zi (had : Int), zl 0, zu, zi 1] [] σ (0, 0) Q := by
  have ok := (mL l l0 l1).1
  have ht := timesN_bd ok hk
  have hcap : (capN (L l) : Int) = timesN (L l) := by unfold capN; omega
  have key : ∀ (m x : Nat), x + m = capN (L l) - had + 1 → 1 ≤ x → WP m_Mod_ways 165 [zr 192, zi l, zi (v : Int), u3, u4, u5, zi (n : Int), zi (had : Int), zl (Int64.ofNat (runs (TB (alB (L l)) (capN (L l)) (v - 1)) v n (x - 1))), zu, zi (x : Int)] [] σ (0, 0) Q := by
    intro m
    induction m with
    | zero =>
      intro x hx x1
      refine r_Mod_ways_165 ?_
      simp only [hS, zrI, zrL, zrR, Shp_wI, Shp_wJ, zR_wI, zR_wJ, zJ_wI, zI_wJ, zobj_wI, zobj_wJ, zarr_wI, zarr_wJ, zS_wI, zS_wJ, o_192, a_193, a_194, a_195, a_196, a_197, a_198, a_199, a_200, a_201, a_202, a_203, a_204, a_205, a_206, a_207, a_208, a_209, a_210, r_192_0, r_192_1, r_192_2, r_192_3, r_192_4, r_192_5, r_192_7, r_192_8, r_192_14, r_192_16, r_192_17, r_192_18, r_192_19, r_192_20, r_192_22, r_192_23, r_192_25, r_192_26, zrI, zrL, zrR, ne_eq, true_and, and_true, true_or, or_true, not_true_eq_false, not_false_eq_true, false_and, and_false, forall_const, true_implies, false_implies, implies_true, reduceCtorEq, Int.reduceEq, Int.reduceNe, Int.reduceLT, Int.reduceLE, Int.reduceNeg, Nat.reduceEqDiff, if_true, if_false, reduceIte, Int.reduceMul, Int.reduceAdd, Int.reduceSub]
      refine t_mTimes hS mL l0 l1 ?_
      simp only [zrI, zrL, zrR, ne_eq, true_and, and_true, true_or, or_true, not_true_eq_false, not_false_eq_true, false_and, and_false, forall_const, true_implies, false_implies, implies_true, reduceCtorEq, Int.reduceEq, Int.reduceNe, Int.reduceLT, Int.reduceLE, Int.reduceNeg, Nat.reduceEqDiff, if_true, if_false, reduceIte, Int.reduceMul, Int.reduceAdd, Int.reduceSub]
      rw [show x - 1 = capN (L l) - had by omega]
      exact ⟨by omega, fun _ => q, fun cc => by omega⟩
    | succ m ih =>
      intro x hx x1
      have hb := mul_bd (x := (x : Int)) (y := (v : Int)) (X := 400) (Y := 400) (by omega) (by omega)
      have hxv : (x : Int) * (v : Int) = ((x * v : Nat) : Int) := by rw [Int.natCast_mul]
      refine r_Mod_ways_165 ?_
      simp only [hS, zrI, zrL, zrR, Shp_wI, Shp_wJ, zR_wI, zR_wJ, zJ_wI, zI_wJ, zobj_wI, zobj_wJ, zarr_wI, zarr_wJ, zS_wI, zS_wJ, o_192, a_193, a_194, a_195, a_196, a_197, a_198, a_199, a_200, a_201, a_202, a_203, a_204, a_205, a_206, a_207, a_208, a_209, a_210, r_192_0, r_192_1, r_192_2, r_192_3, r_192_4, r_192_5, r_192_7, r_192_8, r_192_14, r_192_16, r_192_17, r_192_18, r_192_19, r_192_20, r_192_22, r_192_23, r_192_25, r_192_26, zrI, zrL, zrR, ne_eq, true_and, and_true, true_or, or_true, not_true_eq_false, not_false_eq_true, false_and, and_false, forall_const, true_implies, false_implies, implies_true, reduceCtorEq, Int.reduceEq, Int.reduceNe, Int.reduceLT, Int.reduceLE, Int.reduceNeg, Nat.reduceEqDiff, if_true, if_false, reduceIte, Int.reduceMul, Int.reduceAdd, Int.reduceSub]
      refine t_mTimes hS mL l0 l1 ?_
      simp only [hS, zrI, zrL, zrR, Shp_wI, Shp_wJ, zR_wI, zR_wJ, zJ_wI, zI_wJ, zobj_wI, zobj_wJ, zarr_wI, zarr_wJ, zS_wI, zS_wJ, o_192, a_193, a_194, a_195, a_196, a_197, a_198, a_199, a_200, a_201, a_202, a_203, a_204, a_205, a_206, a_207, a_208, a_209, a_210, r_192_0, r_192_1, r_192_2, r_192_3, r_192_4, r_192_5, r_192_7, r_192_8, r_192_14, r_192_16, r_192_17, r_192_18, r_192_19, r_192_20, r_192_22, r_192_23, r_192_25, r_192_26, zrI, zrL, zrR, ne_eq, true_and, and_true, true_or, or_true, not_true_eq_false, not_false_eq_true, false_and, and_false, forall_const, true_implies, false_implies, implies_true, reduceCtorEq, Int.reduceEq, Int.reduceNe, Int.reduceLT, Int.reduceLE, Int.reduceNeg, Nat.reduceEqDiff, if_true, if_false, reduceIte, Int.reduceMul, Int.reduceAdd, Int.reduceSub]
      rw [hxv] at hb ⊢
      refine ⟨by omega, fun cc => by omega, fun _ => ⟨by omega, fun c2 => ?_, fun c2 => ⟨by omega, by omega, by omega, t_mCell hS (by omega) (by omega) (by omega) ?_⟩⟩⟩
      · have e : runs (TB (alB (L l)) (capN (L l)) (v - 1)) v n (capN (L l) - had) = runs (TB (alB (L l)) (capN (L l)) (v - 1)) v n (x - 1) := by
          have : ∀ d, x - 1 ≤ d → runs (TB (alB (L l)) (capN (L l)) (v - 1)) v n d = runs (TB (alB (L l)) (capN (L l)) (v - 1)) v n (x - 1) := by
            intro d
            induction d with
            | zero => intro h; rw [show x - 1 = 0 by omega]
            | succ d ihd =>
              intro h
              by_cases e : x - 1 = d + 1
              · rw [e]
              · show runs _ v n d + (if (d + 1) * v ≤ n then _ else 0) = _
                have := Nat.mul_le_mul_right v (show x ≤ d + 1 by omega)
                rw [if_neg (by omega), ihd (by omega)]
                rfl
          exact this _ (by omega)
        rw [e] at q
        exact q
      · have ev := mT.1 (by omega) (v - 1) (n - x * v) (by omega) (by omega)
        rw [show ((v - 1 : Nat) : Int) = (v : Int) - 1 by omega, show ((n - x * v : Nat) : Int) = (n : Int) - ((x * v : Nat) : Int) by omega] at ev
        rw [if_neg (by omega), ev]
        simp only [zrI, zrL, zrR, ne_eq, true_and, and_true, true_or, or_true, not_true_eq_false, not_false_eq_true, false_and, and_false, forall_const, true_implies, false_implies, implies_true, reduceCtorEq, Int.reduceEq, Int.reduceNe, Int.reduceLT, Int.reduceLE, Int.reduceNeg, Nat.reduceEqDiff, if_true, if_false, reduceIte, Int.reduceMul, Int.reduceAdd, Int.reduceSub]
        refine ⟨by omega, ?_⟩
        have := ih (x + 1) (by omega) (by omega)
        have e : runs (TB (alB (L l)) (capN (L l)) (v - 1)) v n (x + 1 - 1) = runs (TB (alB (L l)) (capN (L l)) (v - 1)) v n (x - 1) + TB (alB (L l)) (capN (L l)) (v - 1) (n - x * v) := by
          obtain ⟨y, rfl⟩ : ∃ y, x = y + 1 := ⟨x - 1, by omega⟩
          rw [show y + 1 + 1 - 1 = y + 1 by omega, show y + 1 - 1 = y by omega]
          show runs _ v n y + (if (y + 1) * v ≤ n then _ else 0) = _
          rw [if_pos (by omega)]
        rw [e, Int64.ofNat_add, Int.natCast_succ] at this
        exact this
  exact key (capN (L l) - had) 1 (by omega) (by omega)
theorem t_mWays {Q : ZQ} {σ : ZM} {L : Int → LW} {l : Int} {i b o n v : Nat} (hS : Shp σ) (mL : MLaw σ L) (l0 : 0 ≤ l) (l1 : l ≤ 7) (hw : L l 0 ≤ 3) (mR : MRd σ (L l)) (hv : 1 ≤ v) (v4 : v ≤ 400) (hi : i ≤ 400) (hb : b ≤ 400) (ho : o ≤ 400) (hn : (n : Int) ≤ covN (L l)) (q : Q (zl (Int64.ofNat (WN (L l) i b o n v))) σ) : WP m_Mod_ways 0 [zr 192, zi l, zi (v : Int), zi (i : Int), zi (b : Int), zi (o : Int), zi (n : Int), zu, zu, zu, zu] [] σ (0, 0) Q := by
  have ok := (mL l l0 l1).1
  have hk0 : 0 ≤ L l 0 := by unfold lawOK canB at ok; omega
  have n4 : n ≤ 400 := by unfold covN at hn; split at hn <;> omega
  unfold WN at q
  refine r_Mod_ways_0 ?_
  simp only [hS, zrI, zrL, zrR, Shp_wI, Shp_wJ, zR_wI, zR_wJ, zJ_wI, zI_wJ, zobj_wI, zobj_wJ, zarr_wI, zarr_wJ, zS_wI, zS_wJ, o_192, a_193, a_194, a_195, a_196, a_197, a_198, a_199, a_200, a_201, a_202, a_203, a_204, a_205, a_206, a_207, a_208, a_209, a_210, r_192_0, r_192_1, r_192_2, r_192_3, r_192_4, r_192_5, r_192_7, r_192_8, r_192_14, r_192_16, r_192_17, r_192_18, r_192_19, r_192_20, r_192_22, r_192_23, r_192_25, r_192_26, zrI, zrL, zrR, ne_eq, true_and, and_true, true_or, or_true, not_true_eq_false, not_false_eq_true, false_and, and_false, forall_const, true_implies, false_implies, implies_true, reduceCtorEq, Int.reduceEq, Int.reduceNe, Int.reduceLT, Int.reduceLE, Int.reduceNeg, Nat.reduceEqDiff, if_true, if_false, reduceIte, Int.reduceMul, Int.reduceAdd, Int.reduceSub]
  refine ⟨fun hvn => t_mKind hS mL l0 l1 ?_, fun hvn => by rw [if_pos (by omega)] at q; exact q⟩
  rw [if_neg (show ¬ n < v by omega)] at q
  simp only [hS, zrI, zrL, zrR, Shp_wI, Shp_wJ, zR_wI, zR_wJ, zJ_wI, zI_wJ, zobj_wI, zobj_wJ, zarr_wI, zarr_wJ, zS_wI, zS_wJ, o_192, a_193, a_194, a_195, a_196, a_197, a_198, a_199, a_200, a_201, a_202, a_203, a_204, a_205, a_206, a_207, a_208, a_209, a_210, r_192_0, r_192_1, r_192_2, r_192_3, r_192_4, r_192_5, r_192_7, r_192_8, r_192_14, r_192_16, r_192_17, r_192_18, r_192_19, r_192_20, r_192_22, r_192_23, r_192_25, r_192_26, zrI, zrL, zrR, ne_eq, true_and, and_true, true_or, or_true, not_true_eq_false, not_false_eq_true, false_and, and_false, forall_const, true_implies, false_implies, implies_true, reduceCtorEq, Int.reduceEq, Int.reduceNe, Int.reduceLT, Int.reduceLE, Int.reduceNeg, Nat.reduceEqDiff, if_true, if_false, reduceIte, Int.reduceMul, Int.reduceAdd, Int.reduceSub]
  refine ⟨fun h2 => ?_, fun h2 => ⟨fun h3 => ?_, fun h3 => ?_⟩⟩
  · rw [if_pos h2] at q
    have ev := ((mR.1 (by omega)).2 h2).1 v n (by omega) n4
    rw [ev]
    have hg := gapN_bd (w := L l) (v := (b : Int)) ok h2
    refine ⟨fun c => ⟨by omega, by omega, by omega, ?_⟩, fun c => ⟨by omega, t_mGap hS mL l0 l1 h2 (by omega) (by omega) ?_⟩⟩
    · rw [if_neg (by omega)] at q; exact q
    · simp only [hS, ev, zrI, zrL, zrR, Shp_wI, Shp_wJ, zR_wI, zR_wJ, zJ_wI, zI_wJ, zobj_wI, zobj_wJ, zarr_wI, zarr_wJ, zS_wI, zS_wJ, o_192, a_193, a_194, a_195, a_196, a_197, a_198, a_199, a_200, a_201, a_202, a_203, a_204, a_205, a_206, a_207, a_208, a_209, a_210, r_192_0, r_192_1, r_192_2, r_192_3, r_192_4, r_192_5, r_192_7, r_192_8, r_192_14, r_192_16, r_192_17, r_192_18, r_192_19, r_192_20, r_192_22, r_192_23, r_192_25, r_192_26, zrI, zrL, zrR, ne_eq, true_and, and_true, true_or, or_true, not_true_eq_false, not_false_eq_true, false_and, and_false, forall_const, true_implies, false_implies, implies_true, reduceCtorEq, Int.reduceEq, Int.reduceNe, Int.reduceLT, Int.reduceLE, Int.reduceNeg, Nat.reduceEqDiff, if_true, if_false, reduceIte, Int.reduceMul, Int.reduceAdd, Int.reduceSub]
      refine ⟨fun c2 => ⟨by omega, by omega, by omega, ?_⟩, fun c2 => ?_⟩
      · rw [if_neg (by omega)] at q; exact q
      · rw [if_pos (by omega)] at q; exact q
  · rw [if_neg h2, if_pos h3] at q
    have hw1 : 0 ≤ L l 1 ∧ L l 1 ≤ 60 ∧ 0 ≤ L l 2 ∧ L l 2 ≤ 60 := by unfold lawOK canB at ok; omega
    have n6 : n ≤ 60 := by unfold covN at hn; rw [if_pos h3] at hn; omega
    refine t_mNum hS mL l0 l1 (by omega) (by omega) ?_
    simp only [hS, zrI, zrL, zrR, Shp_wI, Shp_wJ, zR_wI, zR_wJ, zJ_wI, zI_wJ, zobj_wI, zobj_wJ, zarr_wI, zarr_wJ, zS_wI, zS_wJ, o_192, a_193, a_194, a_195, a_196, a_197, a_198, a_199, a_200, a_201, a_202, a_203, a_204, a_205, a_206, a_207, a_208, a_209, a_210, r_192_0, r_192_1, r_192_2, r_192_3, r_192_4, r_192_5, r_192_7, r_192_8, r_192_14, r_192_16, r_192_17, r_192_18, r_192_19, r_192_20, r_192_22, r_192_23, r_192_25, r_192_26, zrI, zrL, zrR, ne_eq, true_and, and_true, true_or, or_true, not_true_eq_false, not_false_eq_true, false_and, and_false, forall_const, true_implies, false_implies, implies_true, reduceCtorEq, Int.reduceEq, Int.reduceNe, Int.reduceLT, Int.reduceLE, Int.reduceNeg, Nat.reduceEqDiff, if_true, if_false, reduceIte, Int.reduceMul, Int.reduceAdd, Int.reduceSub]
    refine ⟨fun c => by rw [if_pos (Or.inl c)] at q; exact q, fun c => t_mNum hS mL l0 l1 (by omega) (by omega) ?_⟩
    simp only [hS, zrI, zrL, zrR, Shp_wI, Shp_wJ, zR_wI, zR_wJ, zJ_wI, zI_wJ, zobj_wI, zobj_wJ, zarr_wI, zarr_wJ, zS_wI, zS_wJ, o_192, a_193, a_194, a_195, a_196, a_197, a_198, a_199, a_200, a_201, a_202, a_203, a_204, a_205, a_206, a_207, a_208, a_209, a_210, r_192_0, r_192_1, r_192_2, r_192_3, r_192_4, r_192_5, r_192_7, r_192_8, r_192_14, r_192_16, r_192_17, r_192_18, r_192_19, r_192_20, r_192_22, r_192_23, r_192_25, r_192_26, zrI, zrL, zrR, ne_eq, true_and, and_true, true_or, or_true, not_true_eq_false, not_false_eq_true, false_and, and_false, forall_const, true_implies, false_implies, implies_true, reduceCtorEq, Int.reduceEq, Int.reduceNe, Int.reduceLT, Int.reduceLE, Int.reduceNeg, Nat.reduceEqDiff, if_true, if_false, reduceIte, Int.reduceMul, Int.reduceAdd, Int.reduceSub]
    refine ⟨fun c2 => ⟨by omega, t_mNum hS mL l0 l1 (by omega) (by omega) ?_⟩, fun c2 => by rw [if_pos (Or.inr c2)] at q; exact q⟩
    simp only [hS, zrI, zrL, zrR, Shp_wI, Shp_wJ, zR_wI, zR_wJ, zJ_wI, zI_wJ, zobj_wI, zobj_wJ, zarr_wI, zarr_wJ, zS_wI, zS_wJ, o_192, a_193, a_194, a_195, a_196, a_197, a_198, a_199, a_200, a_201, a_202, a_203, a_204, a_205, a_206, a_207, a_208, a_209, a_210, r_192_0, r_192_1, r_192_2, r_192_3, r_192_4, r_192_5, r_192_7, r_192_8, r_192_14, r_192_16, r_192_17, r_192_18, r_192_19, r_192_20, r_192_22, r_192_23, r_192_25, r_192_26, zrI, zrL, zrR, ne_eq, true_and, and_true, true_or, or_true, not_true_eq_false, not_false_eq_true, false_and, and_false, forall_const, true_implies, false_implies, implies_true, reduceCtorEq, Int.reduceEq, Int.reduceNe, Int.reduceLT, Int.reduceLE, Int.reduceNeg, Nat.reduceEqDiff, if_true, if_false, reduceIte, Int.reduceMul, Int.reduceAdd, Int.reduceSub]
    refine ⟨by omega, by omega, t_mInBoxV hS (mR.2 h3) (by omega) (by omega) (by omega) (by omega) (by omega) ?_⟩
    rw [if_neg (by omega)] at q
    unfold bxL
    rw [if_neg (by omega), show (L l 1 - (i : Int) - 1).toNat = (L l 1).toNat - i - 1 by omega, Int.toNat_natCast, show ((n : Int) - (v : Int)).toNat = n - v by omega]
    exact q
  · rw [if_neg h2, if_neg h3] at q
    have hk : L l 0 = 0 ∨ L l 0 = 1 := by omega
    have ht := timesN_bd ok hk
    have hcap : (capN (L l) : Int) = timesN (L l) := by unfold capN; omega
    have mT := mR.1 h3
    have none : ∀ (c : ¬ alP (L l) (v : Int)), Q (zl 0) σ := fun c => by
      rw [if_neg (by rw [alB_iff]; exact c)] at q; exact q
    have yes : ∀ (c : alP (L l) (v : Int)) (had : Nat), hadN i b o v = had → had ≤ 400 → (u3 u4 u5 : PV) → WP m_Mod_ways 165 [zr 192, zi l, zi (v : Int), u3, u4, u5, zi (n : Int), zi (had : Int), zl 0, zu, zi 1] [] σ (0, 0) Q := fun c had he h4 u3 u4 u5 => by
      rw [if_pos (alB_iff.mpr c), he] at q
      exact t_mWays165 hS mL l0 l1 hk mT hv (by omega) n4 h4 u3 u4 u5 q
    refine ⟨fun c => t_mLets hS mL l0 l1 hk (by omega) (by omega) (fun ha => ?_) (fun ha => ?_), fun c => ⟨fun c2 => t_mLets hS mL l0 l1 hk (by omega) (by omega) (fun ha => ?_) (fun ha => ?_), fun c2 => t_mLets hS mL l0 l1 hk (by omega) (by omega) (fun ha => ?_) (fun ha => ?_)⟩⟩
    · simp only [hS, zrI, zrL, zrR, Shp_wI, Shp_wJ, zR_wI, zR_wJ, zJ_wI, zI_wJ, zobj_wI, zobj_wJ, zarr_wI, zarr_wJ, zS_wI, zS_wJ, o_192, a_193, a_194, a_195, a_196, a_197, a_198, a_199, a_200, a_201, a_202, a_203, a_204, a_205, a_206, a_207, a_208, a_209, a_210, r_192_0, r_192_1, r_192_2, r_192_3, r_192_4, r_192_5, r_192_7, r_192_8, r_192_14, r_192_16, r_192_17, r_192_18, r_192_19, r_192_20, r_192_22, r_192_23, r_192_25, r_192_26, zrI, zrL, zrR, ne_eq, true_and, and_true, true_or, or_true, not_true_eq_false, not_false_eq_true, false_and, and_false, forall_const, true_implies, false_implies, implies_true, reduceCtorEq, Int.reduceEq, Int.reduceNe, Int.reduceLT, Int.reduceLE, Int.reduceNeg, Nat.reduceEqDiff, if_true, if_false, reduceIte, Int.reduceMul, Int.reduceAdd, Int.reduceSub]
      refine t_mTimes hS mL l0 l1 ?_
      simp only [zrI, zrL, zrR, ne_eq, true_and, and_true, true_or, or_true, not_true_eq_false, not_false_eq_true, false_and, and_false, forall_const, true_implies, false_implies, implies_true, reduceCtorEq, Int.reduceEq, Int.reduceNe, Int.reduceLT, Int.reduceLE, Int.reduceNeg, Nat.reduceEqDiff, if_true, if_false, reduceIte, Int.reduceMul, Int.reduceAdd, Int.reduceSub]
      exact ⟨fun _ => yes ha 0 (by unfold hadN; rw [if_neg (by omega)]) (by omega) _ _ _, fun c3 => by omega⟩
    · simp only [zrI, zrL, zrR, ne_eq, true_and, and_true, true_or, or_true, not_true_eq_false, not_false_eq_true, false_and, and_false, forall_const, true_implies, false_implies, implies_true, reduceCtorEq, Int.reduceEq, Int.reduceNe, Int.reduceLT, Int.reduceLE, Int.reduceNeg, Nat.reduceEqDiff, if_true, if_false, reduceIte, Int.reduceMul, Int.reduceAdd, Int.reduceSub]
      exact none ha
    · simp only [hS, zrI, zrL, zrR, Shp_wI, Shp_wJ, zR_wI, zR_wJ, zJ_wI, zI_wJ, zobj_wI, zobj_wJ, zarr_wI, zarr_wJ, zS_wI, zS_wJ, o_192, a_193, a_194, a_195, a_196, a_197, a_198, a_199, a_200, a_201, a_202, a_203, a_204, a_205, a_206, a_207, a_208, a_209, a_210, r_192_0, r_192_1, r_192_2, r_192_3, r_192_4, r_192_5, r_192_7, r_192_8, r_192_14, r_192_16, r_192_17, r_192_18, r_192_19, r_192_20, r_192_22, r_192_23, r_192_25, r_192_26, zrI, zrL, zrR, ne_eq, true_and, and_true, true_or, or_true, not_true_eq_false, not_false_eq_true, false_and, and_false, forall_const, true_implies, false_implies, implies_true, reduceCtorEq, Int.reduceEq, Int.reduceNe, Int.reduceLT, Int.reduceLE, Int.reduceNeg, Nat.reduceEqDiff, if_true, if_false, reduceIte, Int.reduceMul, Int.reduceAdd, Int.reduceSub]
      refine t_mTimes hS mL l0 l1 ?_
      simp only [zrI, zrL, zrR, ne_eq, true_and, and_true, true_or, or_true, not_true_eq_false, not_false_eq_true, false_and, and_false, forall_const, true_implies, false_implies, implies_true, reduceCtorEq, Int.reduceEq, Int.reduceNe, Int.reduceLT, Int.reduceLE, Int.reduceNeg, Nat.reduceEqDiff, if_true, if_false, reduceIte, Int.reduceMul, Int.reduceAdd, Int.reduceSub]
      exact ⟨fun _ => yes ha 0 (by unfold hadN; rw [if_neg (by omega)]) (by omega) _ _ _, fun c3 => by omega⟩
    · simp only [zrI, zrL, zrR, ne_eq, true_and, and_true, true_or, or_true, not_true_eq_false, not_false_eq_true, false_and, and_false, forall_const, true_implies, false_implies, implies_true, reduceCtorEq, Int.reduceEq, Int.reduceNe, Int.reduceLT, Int.reduceLE, Int.reduceNeg, Nat.reduceEqDiff, if_true, if_false, reduceIte, Int.reduceMul, Int.reduceAdd, Int.reduceSub]
      exact none ha
    · simp only [hS, zrI, zrL, zrR, Shp_wI, Shp_wJ, zR_wI, zR_wJ, zJ_wI, zI_wJ, zobj_wI, zobj_wJ, zarr_wI, zarr_wJ, zS_wI, zS_wJ, o_192, a_193, a_194, a_195, a_196, a_197, a_198, a_199, a_200, a_201, a_202, a_203, a_204, a_205, a_206, a_207, a_208, a_209, a_210, r_192_0, r_192_1, r_192_2, r_192_3, r_192_4, r_192_5, r_192_7, r_192_8, r_192_14, r_192_16, r_192_17, r_192_18, r_192_19, r_192_20, r_192_22, r_192_23, r_192_25, r_192_26, zrI, zrL, zrR, ne_eq, true_and, and_true, true_or, or_true, not_true_eq_false, not_false_eq_true, false_and, and_false, forall_const, true_implies, false_implies, implies_true, reduceCtorEq, Int.reduceEq, Int.reduceNe, Int.reduceLT, Int.reduceLE, Int.reduceNeg, Nat.reduceEqDiff, if_true, if_false, reduceIte, Int.reduceMul, Int.reduceAdd, Int.reduceSub]
      refine t_mTimes hS mL l0 l1 ?_
      simp only [zrI, zrL, zrR, ne_eq, true_and, and_true, true_or, or_true, not_true_eq_false, not_false_eq_true, false_and, and_false, forall_const, true_implies, false_implies, implies_true, reduceCtorEq, Int.reduceEq, Int.reduceNe, Int.reduceLT, Int.reduceLE, Int.reduceNeg, Nat.reduceEqDiff, if_true, if_false, reduceIte, Int.reduceMul, Int.reduceAdd, Int.reduceSub]
      have he : hadN i b o v = o := by unfold hadN; rw [if_pos ⟨by omega, by omega⟩]
      refine ⟨fun _ => yes ha o he ho _ _ _, fun c3 => ?_⟩
      rw [if_pos (alB_iff.mpr ha), he, show capN (L l) - o = 0 by omega] at q
      exact q
    · simp only [zrI, zrL, zrR, ne_eq, true_and, and_true, true_or, or_true, not_true_eq_false, not_false_eq_true, false_and, and_false, forall_const, true_implies, false_implies, implies_true, reduceCtorEq, Int.reduceEq, Int.reduceNe, Int.reduceLT, Int.reduceLE, Int.reduceNeg, Nat.reduceEqDiff, if_true, if_false, reduceIte, Int.reduceMul, Int.reduceAdd, Int.reduceSub]
      exact none ha
theorem t_mMakeFor {Q : ZQ} {σ : ZM} {L : Int → LW} {l : Int} (hS : Shp σ) (mC : MCo σ L) (l0 : 0 ≤ l) (l1 : l ≤ 7) (hw : L l 0 ≤ 3) (q : ∀ σ', MCo σ' L → MRd σ' (L l) → Fz mcf σ σ' → Q zu σ') : WP m_Mod_makeFor 0 [zr 192, zi l] [] σ (0, 0) Q := by
  obtain ⟨mL, mT, mB, m2⟩ := id mC
  refine r_Mod_makeFor_0 ?_
  simp only [hS, zrI, zrL, zrR, Shp_wI, Shp_wJ, zR_wI, zR_wJ, zJ_wI, zI_wJ, zobj_wI, zobj_wJ, zarr_wI, zarr_wJ, zS_wI, zS_wJ, o_192, a_193, a_194, a_195, a_196, a_197, a_198, a_199, a_200, a_201, a_202, a_203, a_204, a_205, a_206, a_207, a_208, a_209, a_210, r_192_0, r_192_1, r_192_2, r_192_3, r_192_4, r_192_5, r_192_7, r_192_8, r_192_14, r_192_16, r_192_17, r_192_18, r_192_19, r_192_20, r_192_22, r_192_23, r_192_25, r_192_26, zrI, zrL, zrR, ne_eq, true_and, and_true, true_or, or_true, not_true_eq_false, not_false_eq_true, false_and, and_false, forall_const, true_implies, false_implies, implies_true, reduceCtorEq, Int.reduceEq, Int.reduceNe, Int.reduceLT, Int.reduceLE, Int.reduceNeg, Nat.reduceEqDiff, if_true, if_false, reduceIte, Int.reduceMul, Int.reduceAdd, Int.reduceSub]
  refine t_mKind hS mL l0 l1 ?_
  simp only [hS, zrI, zrL, zrR, Shp_wI, Shp_wJ, zR_wI, zR_wJ, zJ_wI, zI_wJ, zobj_wI, zobj_wJ, zarr_wI, zarr_wJ, zS_wI, zS_wJ, o_192, a_193, a_194, a_195, a_196, a_197, a_198, a_199, a_200, a_201, a_202, a_203, a_204, a_205, a_206, a_207, a_208, a_209, a_210, r_192_0, r_192_1, r_192_2, r_192_3, r_192_4, r_192_5, r_192_7, r_192_8, r_192_14, r_192_16, r_192_17, r_192_18, r_192_19, r_192_20, r_192_22, r_192_23, r_192_25, r_192_26, zrI, zrL, zrR, ne_eq, true_and, and_true, true_or, or_true, not_true_eq_false, not_false_eq_true, false_and, and_false, forall_const, true_implies, false_implies, implies_true, reduceCtorEq, Int.reduceEq, Int.reduceNe, Int.reduceLT, Int.reduceLE, Int.reduceNeg, Nat.reduceEqDiff, if_true, if_false, reduceIte, Int.reduceMul, Int.reduceAdd, Int.reduceSub]
  refine ⟨fun h3 => t_mMake hS mL mT l0 l1 (by omega) (fun τ w1 w2 w3 => q τ ⟨w3.mlaw (fun j => by omega) mL, w2, w3.mboxI (by omega) (fun j => by omega) mB, w3.mtwoI (by omega) (fun j => by omega) m2⟩ ⟨fun _ => w1, fun h => absurd h h3⟩ (w3.mono (fun a j w => Or.inl w))), fun h3 => t_mMakeBox hS mB (fun τ w1 w2 => q τ ⟨w2.mlaw (fun j => by omega) mL, w2.mtabI (fun j a b => by omega) (fun j => by omega) (fun j => by omega) mT, Or.inr w1, w2.mtwoI (by omega) (fun j => by omega) m2⟩ ⟨fun h => absurd h3 h, fun _ => w1⟩ (w2.mono (fun a j w => by omega)))⟩
theorem rkF_zero {w : LW} {l : List Int} {f b o n : Nat} : rkF w l f 0 b o n = rkF w l f 0 0 0 n := by
  cases f with
  | zero => rfl
  | succ f =>
    show sBt (WN w 0 b o n) _ (topN 0 b n) + rkF w l f 1 _ (hadN 0 b o _ + 1) _ = sBt (WN w 0 0 0 n) _ (topN 0 0 n) + rkF w l f 1 _ (hadN 0 0 0 _ + 1) _
    have e1 : WN w 0 b o n = WN w 0 0 0 n := by funext v; exact WN_zero
    have e2 : topN 0 b n = topN 0 0 n := rfl
    have e3 : ∀ v, hadN 0 b o v = hadN 0 0 0 v := fun v => by unfold hadN; rw [if_neg (by omega), if_neg (by omega)]
    rw [e1, e2, e3]
