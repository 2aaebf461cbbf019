/-! clash, told, of the reference -/
set_option maxHeartbeats 1000000 in
theorem t_mClashOf {Q : ZQ} {σ : ZM} {M : Int → List Int} {L : Int → LW} {l s : Int} (hS : Shp σ) (m : MS σ M) (mL : MLaw σ L) (l0 : 0 ≤ l) (l1 : l ≤ 7) (s0 : 0 ≤ s) (s1 : s ≤ 10) (hp : Pt (M s)) (q : ∀ r, ClashR (L l) (M s) r → Q (zi r) σ) : WP m_Mod_clashOf 0 [zr 192, zi l, zi s, zu, zu, zu, zu, zu] [] σ (0, 0) Q := by
  obtain ⟨g1, g2, g3⟩ := m s s0 s1
  have ok := (mL l l0 l1).1
  have hlen := hp.len
  have key : ∀ (k : Nat) (i x : Int) (u5 u6 u7 : PV), 0 ≤ i → i + k = ((M s).length : Int) → (0 < i → x = likeN (M s) (i - 1).toNat) → (∀ j, 0 ≤ j → j < i → ¬ badP (L l) (M s) j) → WP m_Mod_clashOf 5 [zr 192, zi l, zi s, zi x, zi i, u5, u6, u7] [] σ (0, 0) Q := by
    intro k
    induction k with
    | zero =>
      intro i x u5 u6 u7 i0 hk hx hb
      refine r_Mod_clashOf_5 ?_
      simp only [hS, g1, zrI, zrL, zrR, Shp_wI, Shp_wJ, zR_wI, zR_wJ, zJ_wI, zI_wJ, zobj_wI, zobj_wJ, zarr_wI, zarr_wJ, zS_wI, zS_wJ, o_192, a_193, a_194, a_195, a_196, a_197, a_198, a_199, a_200, a_201, a_202, a_203, a_204, a_205, a_206, a_207, a_208, a_209, a_210, r_192_0, r_192_1, r_192_2, r_192_3, r_192_4, r_192_5, r_192_7, r_192_8, r_192_14, r_192_16, r_192_17, r_192_18, r_192_19, r_192_20, r_192_22, r_192_23, r_192_25, r_192_26, zrI, zrL, zrR, ne_eq, true_and, and_true, true_or, or_true, not_true_eq_false, not_false_eq_true, false_and, and_false, forall_const, true_implies, false_implies, implies_true, reduceCtorEq, Int.reduceEq, Int.reduceNe, Int.reduceLT, Int.reduceLE, Int.reduceNeg, Nat.reduceEqDiff, if_true, if_false, reduceIte, Int.reduceMul, Int.reduceAdd, Int.reduceSub]
      repeat' first | omega | exact Or.inl (by omega) | apply And.intro | refine fun (_ : _ ≤ _) => ?_ | refine fun (_ : _ < _) => ?_ | refine fun (_ : _ = _) => ?_ | refine fun (_ : ¬ (_ = _)) => ?_ | refine fun (_ : _ ∨ _) => ?_
      exact q _ (Or.inl ⟨rfl, fun j j0 j1 => hb j j0 (by omega)⟩)
    | succ k ih =>
      intro i x u5 u6 u7 i0 hk hx hb
      have hr := hp.rng i
      have hr1 := hp.rng (i - 1)
      have hlk := likeN_bd (M s) i.toNat
      have hlk1 := likeN_bd (M s) (i - 1).toNat
      have bad : Unit → badP (L l) (M s) i → ∀ (u v : PV) (y : Int), WP m_Mod_clashOf 296 [zr 192, zi l, zi s, zi y, zi i, u, zi 0, v] [] σ (0, 0) Q := fun _ hn u v y => by
        refine r_Mod_clashOf_296 ?_
        simp only [zrI, zrL, zrR, ne_eq, true_and, and_true, true_or, or_true, not_true_eq_false, not_false_eq_true, false_and, and_false, forall_const, true_implies, false_implies, implies_true, reduceCtorEq, Int.reduceEq, Int.reduceNe, Int.reduceLT, Int.reduceLE, Int.reduceNeg, Nat.reduceEqDiff, if_true, if_false, reduceIte, Int.reduceMul, Int.reduceAdd, Int.reduceSub]
        exact q _ (Or.inr ⟨i0, by omega, hn, hb⟩)
      have good : Unit → ¬ badP (L l) (M s) i → ∀ (u v : PV) (y : Int), y = likeN (M s) i.toNat → WP m_Mod_clashOf 296 [zr 192, zi l, zi s, zi y, zi i, u, zi 1, v] [] σ (0, 0) Q := fun _ hn u v y hy => by
        refine r_Mod_clashOf_296 ?_
        simp only [zrI, zrL, zrR, ne_eq, true_and, and_true, true_or, or_true, not_true_eq_false, not_false_eq_true, false_and, and_false, forall_const, true_implies, false_implies, implies_true, reduceCtorEq, Int.reduceEq, Int.reduceNe, Int.reduceLT, Int.reduceLE, Int.reduceNeg, Nat.reduceEqDiff, if_true, if_false, reduceIte, Int.reduceMul, Int.reduceAdd, Int.reduceSub]
        refine ⟨by omega, ih (i + 1) y _ _ _ (by omega) (by omega) (fun _ => by rw [show i + 1 - 1 = i by omega]; exact hy) (fun j j0 j1 => ?_)⟩
        by_cases e : j = i
        · rw [e]; exact hn
        · exact hb j j0 (by omega)
      have c159 : Unit → L l 0 = 2 → (i = 0 ∨ gapN (L l) (ga (M s) (i - 1)) ≤ ga (M s) (i - 1) - ga (M s) i) → ∀ (u6 u7 : PV) (y : Int), y = likeN (M s) i.toNat → WP m_Mod_clashOf 159 [zr 192, zi l, zi s, zi y, zi i, zi (ga (M s) i), u6, u7] [] σ (0, 0) Q := fun _ e2 hg u6 u7 y hy => by
        have hbad : badP (L l) (M s) i ↔ ((0 < i ∧ ga (M s) (i - 1) - ga (M s) i < gapN (L l) (ga (M s) (i - 1))) ∨ (i = ((M s).length : Int) - 1 ∧ ga (M s) i < L l 4)) := by unfold badP; simp [e2]
        refine r_Mod_clashOf_159 ?_
        simp only [hS, g1, zrI, zrL, zrR, Shp_wI, Shp_wJ, zR_wI, zR_wJ, zJ_wI, zI_wJ, zobj_wI, zobj_wJ, zarr_wI, zarr_wJ, zS_wI, zS_wJ, o_192, a_193, a_194, a_195, a_196, a_197, a_198, a_199, a_200, a_201, a_202, a_203, a_204, a_205, a_206, a_207, a_208, a_209, a_210, r_192_0, r_192_1, r_192_2, r_192_3, r_192_4, r_192_5, r_192_7, r_192_8, r_192_14, r_192_16, r_192_17, r_192_18, r_192_19, r_192_20, r_192_22, r_192_23, r_192_25, r_192_26, zrI, zrL, zrR, ne_eq, true_and, and_true, true_or, or_true, not_true_eq_false, not_false_eq_true, false_and, and_false, forall_const, true_implies, false_implies, implies_true, reduceCtorEq, Int.reduceEq, Int.reduceNe, Int.reduceLT, Int.reduceLE, Int.reduceNeg, Nat.reduceEqDiff, if_true, if_false, reduceIte, Int.reduceMul, Int.reduceAdd, Int.reduceSub]
        repeat' first | omega | exact Or.inl (by omega) | apply And.intro | refine fun (_ : _ ≤ _) => ?_ | refine fun (_ : _ < _) => ?_ | refine fun (_ : _ = _) => ?_ | refine fun (_ : ¬ (_ = _)) => ?_ | refine fun (_ : _ ∨ _) => ?_
        · exact r_Mod_clashOf_183 (good () (by rw [hbad]; omega) _ _ y hy)
        · refine t_mNum hS mL l0 l1 (by omega) (by omega) ?_
          simp only [zrI, zrL, zrR, ne_eq, true_and, and_true, true_or, or_true, not_true_eq_false, not_false_eq_true, false_and, and_false, forall_const, true_implies, false_implies, implies_true, reduceCtorEq, Int.reduceEq, Int.reduceNe, Int.reduceLT, Int.reduceLE, Int.reduceNeg, Nat.reduceEqDiff, if_true, if_false, reduceIte, Int.reduceMul, Int.reduceAdd, Int.reduceSub]
          repeat' first | omega | exact Or.inl (by omega) | apply And.intro | refine fun (_ : _ ≤ _) => ?_ | refine fun (_ : _ < _) => ?_ | refine fun (_ : _ = _) => ?_ | refine fun (_ : ¬ (_ = _)) => ?_ | refine fun (_ : _ ∨ _) => ?_
          · exact r_Mod_clashOf_187 (bad () (by rw [hbad]; omega) _ _ y)
          · exact r_Mod_clashOf_183 (good () (by rw [hbad]; omega) _ _ y hy)
      have c250 : Unit → L l 0 = 5 → ∀ (y : Int), y = likeN (M s) i.toNat → ∀ (m' : Nat) (j z : Int), 0 ≤ j → j + m' = ga (M s) i → ((z = 1 ∧ ∀ a, 0 ≤ a → a < j → hkN (M s) i a ≠ L l 1) ∨ (z = 0 ∧ ∃ a, 0 ≤ a ∧ a < ga (M s) i ∧ hkN (M s) i a = L l 1)) → WP m_Mod_clashOf 250 [zr 192, zi l, zi s, zi y, zi i, zi (ga (M s) i), zi z, zi j] [] σ (0, 0) Q := fun _ e5 y hy => by
        have hbad : badP (L l) (M s) i ↔ hasHk (M s) (L l 1) i := by unfold badP; simp [e5]
        intro m'
        induction m' with
        | zero =>
          intro j z j0 hm hz
          refine r_Mod_clashOf_250 ?_
          simp only [hS, zrI, zrL, zrR, Shp_wI, Shp_wJ, zR_wI, zR_wJ, zJ_wI, zI_wJ, zobj_wI, zobj_wJ, zarr_wI, zarr_wJ, zS_wI, zS_wJ, o_192, a_193, a_194, a_195, a_196, a_197, a_198, a_199, a_200, a_201, a_202, a_203, a_204, a_205, a_206, a_207, a_208, a_209, a_210, r_192_0, r_192_1, r_192_2, r_192_3, r_192_4, r_192_5, r_192_7, r_192_8, r_192_14, r_192_16, r_192_17, r_192_18, r_192_19, r_192_20, r_192_22, r_192_23, r_192_25, r_192_26, zrI, zrL, zrR, ne_eq, true_and, and_true, true_or, or_true, not_true_eq_false, not_false_eq_true, false_and, and_false, forall_const, true_implies, false_implies, implies_true, reduceCtorEq, Int.reduceEq, Int.reduceNe, Int.reduceLT, Int.reduceLE, Int.reduceNeg, Nat.reduceEqDiff, if_true, if_false, reduceIte, Int.reduceMul, Int.reduceAdd, Int.reduceSub]
          repeat' first | omega | exact Or.inl (by omega) | apply And.intro | refine fun (_ : _ ≤ _) => ?_ | refine fun (_ : _ < _) => ?_ | refine fun (_ : _ = _) => ?_ | refine fun (_ : ¬ (_ = _)) => ?_ | refine fun (_ : _ ∨ _) => ?_
          rcases hz with ⟨z1, z2⟩ | ⟨z1, z2⟩
          · rw [z1]
            refine good () ?_ _ _ y hy
            rw [hbad]
            rintro ⟨a, a0, a1, a2⟩
            exact z2 a a0 (by omega) a2
          · rw [z1]
            exact bad () (hbad.mpr z2) _ _ y
        | succ m' ihm =>
          intro j z j0 hm hz
          have w284 : (∃ a, 0 ≤ a ∧ a < ga (M s) i ∧ hkN (M s) i a = L l 1) → ∀ u : PV, WP m_Mod_clashOf 284 [zr 192, zi l, zi s, zi y, zi i, zi (ga (M s) i), u, zi j] [] σ (0, 0) Q := fun hh u =>
            r_Mod_clashOf_284 ⟨by omega, ihm (j + 1) 0 (by omega) (by omega) (Or.inr ⟨rfl, hh⟩)⟩
          refine r_Mod_clashOf_250 ?_
          simp only [hS, zrI, zrL, zrR, Shp_wI, Shp_wJ, zR_wI, zR_wJ, zJ_wI, zI_wJ, zobj_wI, zobj_wJ, zarr_wI, zarr_wJ, zS_wI, zS_wJ, o_192, a_193, a_194, a_195, a_196, a_197, a_198, a_199, a_200, a_201, a_202, a_203, a_204, a_205, a_206, a_207, a_208, a_209, a_210, r_192_0, r_192_1, r_192_2, r_192_3, r_192_4, r_192_5, r_192_7, r_192_8, r_192_14, r_192_16, r_192_17, r_192_18, r_192_19, r_192_20, r_192_22, r_192_23, r_192_25, r_192_26, zrI, zrL, zrR, ne_eq, true_and, and_true, true_or, or_true, not_true_eq_false, not_false_eq_true, false_and, and_false, forall_const, true_implies, false_implies, implies_true, reduceCtorEq, Int.reduceEq, Int.reduceNe, Int.reduceLT, Int.reduceLE, Int.reduceNeg, Nat.reduceEqDiff, if_true, if_false, reduceIte, Int.reduceMul, Int.reduceAdd, Int.reduceSub]
          rcases hz with ⟨z1, z2⟩ | ⟨z1, z2⟩
          · rw [z1]
            repeat' first | omega | exact Or.inl (by omega) | apply And.intro | refine fun (_ : _ ≤ _) => ?_ | refine fun (_ : _ < _) => ?_ | refine fun (_ : _ = _) => ?_ | refine fun (_ : ¬ (_ = _)) => ?_ | refine fun (_ : _ ∨ _) => ?_
            refine t_mHookOf hS m s0 s1 hp i0 j0 (by omega) ?_
            simp only [hS, zrI, zrL, zrR, Shp_wI, Shp_wJ, zR_wI, zR_wJ, zJ_wI, zI_wJ, zobj_wI, zobj_wJ, zarr_wI, zarr_wJ, zS_wI, zS_wJ, o_192, a_193, a_194, a_195, a_196, a_197, a_198, a_199, a_200, a_201, a_202, a_203, a_204, a_205, a_206, a_207, a_208, a_209, a_210, r_192_0, r_192_1, r_192_2, r_192_3, r_192_4, r_192_5, r_192_7, r_192_8, r_192_14, r_192_16, r_192_17, r_192_18, r_192_19, r_192_20, r_192_22, r_192_23, r_192_25, r_192_26, zrI, zrL, zrR, ne_eq, true_and, and_true, true_or, or_true, not_true_eq_false, not_false_eq_true, false_and, and_false, forall_const, true_implies, false_implies, implies_true, reduceCtorEq, Int.reduceEq, Int.reduceNe, Int.reduceLT, Int.reduceLE, Int.reduceNeg, Nat.reduceEqDiff, if_true, if_false, reduceIte, Int.reduceMul, Int.reduceAdd, Int.reduceSub]
            refine t_mNum hS mL l0 l1 (by omega) (by omega) ?_
            simp only [zrI, zrL, zrR, ne_eq, true_and, and_true, true_or, or_true, not_true_eq_false, not_false_eq_true, false_and, and_false, forall_const, true_implies, false_implies, implies_true, reduceCtorEq, Int.reduceEq, Int.reduceNe, Int.reduceLT, Int.reduceLE, Int.reduceNeg, Nat.reduceEqDiff, if_true, if_false, reduceIte, Int.reduceMul, Int.reduceAdd, Int.reduceSub]
            refine ⟨fun c => w284 ⟨j, j0, by omega, c⟩ _, fun c => ⟨by omega, ihm (j + 1) 1 (by omega) (by omega) (Or.inl ⟨rfl, fun a a0 a1 => ?_⟩)⟩⟩
            by_cases e : a = j
            · rw [e]; exact c
            · exact z2 a a0 (by omega)
          · rw [z1]
            repeat' first | omega | exact Or.inl (by omega) | apply And.intro | refine fun (_ : _ ≤ _) => ?_ | refine fun (_ : _ < _) => ?_ | refine fun (_ : _ = _) => ?_ | refine fun (_ : ¬ (_ = _)) => ?_ | refine fun (_ : _ ∨ _) => ?_
            exact w284 z2 _
      have c1good : Unit → L l 0 = 1 → alP (L l) (ga (M s) i) → likeN (M s) i.toNat ≤ timesN (L l) → ¬ badP (L l) (M s) i := fun _ e1 ha ht => by
        unfold badP
        unfold timesN at ht
        simp only [e1] at ht ⊢
        rintro (⟨_, c | c⟩ | c | c | c | c)
        · exact c ha
        · rw [if_neg (by omega)] at ht; omega
        · omega
        · omega
        · omega
        · omega
      have c1bad : Unit → L l 0 = 1 → (¬ alP (L l) (ga (M s) i) ∨ timesN (L l) < likeN (M s) i.toNat) → badP (L l) (M s) i := fun _ e1 ha => by
        refine Or.inl ⟨e1, ?_⟩
        rcases ha with c | c
        · exact Or.inl c
        · unfold timesN at c
          right
          have : 0 ≤ L l 3 := by unfold lawOK canB at ok; omega
          split at c <;> omega
      have hb3 : Unit → L l 0 = 3 → (badP (L l) (M s) i ↔ (L l 1 ≤ i ∨ L l 2 < ga (M s) i)) := fun _ e => by unfold badP; simp [e]
      have hb4 : Unit → L l 0 = 4 → (badP (L l) (M s) i ↔ colN (M s) i ≠ ga (M s) i) := fun _ e => by unfold badP; simp [e]
      have hb2 : Unit → L l 0 = 2 → (badP (L l) (M s) i ↔ ((0 < i ∧ ga (M s) (i - 1) - ga (M s) i < gapN (L l) (ga (M s) (i - 1))) ∨ (i = ((M s).length : Int) - 1 ∧ ga (M s) i < L l 4))) := fun _ e2 => by unfold badP; simp [e2]
      have c50 : Unit → (i = 0 ∨ ga (M s) (i - 1) ≠ ga (M s) i) → ∀ (u3 u6 u7 : PV), WP m_Mod_clashOf 50 [zr 192, zi l, zi s, u3, zi i, zi (ga (M s) i), u6, u7] [] σ (0, 0) Q := by
        intro _ hc u3 u6 u7
        have hy : (1 : Int) = likeN (M s) i.toNat := by
          rcases Int.lt_or_le 0 i with c | c
          · rw [likeN_step c, if_neg (by omega)]
          · rw [show i.toNat = 0 by omega]; rfl
        refine r_Mod_clashOf_50 ?_
        simp only [hS, zrI, zrL, zrR, Shp_wI, Shp_wJ, zR_wI, zR_wJ, zJ_wI, zI_wJ, zobj_wI, zobj_wJ, zarr_wI, zarr_wJ, zS_wI, zS_wJ, o_192, a_193, a_194, a_195, a_196, a_197, a_198, a_199, a_200, a_201, a_202, a_203, a_204, a_205, a_206, a_207, a_208, a_209, a_210, r_192_0, r_192_1, r_192_2, r_192_3, r_192_4, r_192_5, r_192_7, r_192_8, r_192_14, r_192_16, r_192_17, r_192_18, r_192_19, r_192_20, r_192_22, r_192_23, r_192_25, r_192_26, zrI, zrL, zrR, ne_eq, true_and, and_true, true_or, or_true, not_true_eq_false, not_false_eq_true, false_and, and_false, forall_const, true_implies, false_implies, implies_true, reduceCtorEq, Int.reduceEq, Int.reduceNe, Int.reduceLT, Int.reduceLE, Int.reduceNeg, Nat.reduceEqDiff, if_true, if_false, reduceIte, Int.reduceMul, Int.reduceAdd, Int.reduceSub]
        refine t_mKind hS mL l0 l1 ?_
        simp only [hS, zrI, zrL, zrR, Shp_wI, Shp_wJ, zR_wI, zR_wJ, zJ_wI, zI_wJ, zobj_wI, zobj_wJ, zarr_wI, zarr_wJ, zS_wI, zS_wJ, o_192, a_193, a_194, a_195, a_196, a_197, a_198, a_199, a_200, a_201, a_202, a_203, a_204, a_205, a_206, a_207, a_208, a_209, a_210, r_192_0, r_192_1, r_192_2, r_192_3, r_192_4, r_192_5, r_192_7, r_192_8, r_192_14, r_192_16, r_192_17, r_192_18, r_192_19, r_192_20, r_192_22, r_192_23, r_192_25, r_192_26, zrI, zrL, zrR, ne_eq, true_and, and_true, true_or, or_true, not_true_eq_false, not_false_eq_true, false_and, and_false, forall_const, true_implies, false_implies, implies_true, reduceCtorEq, Int.reduceEq, Int.reduceNe, Int.reduceLT, Int.reduceLE, Int.reduceNeg, Nat.reduceEqDiff, if_true, if_false, reduceIte, Int.reduceMul, Int.reduceAdd, Int.reduceSub]
        refine ⟨fun e => good () (by unfold badP; omega) _ _ 1 hy, fun e => ?_, fun e => ⟨fun e2 => c159 () e (Or.inl e2) _ _ 1 hy, fun e2 => ⟨by omega, ?_⟩⟩, fun e => ?_, fun e => ?_, fun e => c250 () e 1 hy (ga (M s) i).toNat 0 1 (by omega) (by omega) (Or.inl ⟨rfl, fun a a0 a1 => by omega⟩)⟩
        · refine t_mLets hS mL l0 l1 (Or.inr e) hr.1 (by omega) (fun ha => ?_) (fun ha => ?_)
          · simp only [hS, zrI, zrL, zrR, Shp_wI, Shp_wJ, zR_wI, zR_wJ, zJ_wI, zI_wJ, zobj_wI, zobj_wJ, zarr_wI, zarr_wJ, zS_wI, zS_wJ, o_192, a_193, a_194, a_195, a_196, a_197, a_198, a_199, a_200, a_201, a_202, a_203, a_204, a_205, a_206, a_207, a_208, a_209, a_210, r_192_0, r_192_1, r_192_2, r_192_3, r_192_4, r_192_5, r_192_7, r_192_8, r_192_14, r_192_16, r_192_17, r_192_18, r_192_19, r_192_20, r_192_22, r_192_23, r_192_25, r_192_26, zrI, zrL, zrR, ne_eq, true_and, and_true, true_or, or_true, not_true_eq_false, not_false_eq_true, false_and, and_false, forall_const, true_implies, false_implies, implies_true, reduceCtorEq, Int.reduceEq, Int.reduceNe, Int.reduceLT, Int.reduceLE, Int.reduceNeg, Nat.reduceEqDiff, if_true, if_false, reduceIte, Int.reduceMul, Int.reduceAdd, Int.reduceSub]
            refine t_mTimes hS mL l0 l1 ?_
            simp only [zrI, zrL, zrR, ne_eq, true_and, and_true, true_or, or_true, not_true_eq_false, not_false_eq_true, false_and, and_false, forall_const, true_implies, false_implies, implies_true, reduceCtorEq, Int.reduceEq, Int.reduceNe, Int.reduceLT, Int.reduceLE, Int.reduceNeg, Nat.reduceEqDiff, if_true, if_false, reduceIte, Int.reduceMul, Int.reduceAdd, Int.reduceSub]
            exact ⟨fun c => r_Mod_clashOf_119 (bad () (c1bad () e (Or.inr (by omega))) _ _ 1), fun c => good () (c1good () e ha (by omega)) _ _ 1 hy⟩
          · simp only [hS, zrI, zrL, zrR, Shp_wI, Shp_wJ, zR_wI, zR_wJ, zJ_wI, zI_wJ, zobj_wI, zobj_wJ, zarr_wI, zarr_wJ, zS_wI, zS_wJ, o_192, a_193, a_194, a_195, a_196, a_197, a_198, a_199, a_200, a_201, a_202, a_203, a_204, a_205, a_206, a_207, a_208, a_209, a_210, r_192_0, r_192_1, r_192_2, r_192_3, r_192_4, r_192_5, r_192_7, r_192_8, r_192_14, r_192_16, r_192_17, r_192_18, r_192_19, r_192_20, r_192_22, r_192_23, r_192_25, r_192_26, zrI, zrL, zrR, ne_eq, true_and, and_true, true_or, or_true, not_true_eq_false, not_false_eq_true, false_and, and_false, forall_const, true_implies, false_implies, implies_true, reduceCtorEq, Int.reduceEq, Int.reduceNe, Int.reduceLT, Int.reduceLE, Int.reduceNeg, Nat.reduceEqDiff, if_true, if_false, reduceIte, Int.reduceMul, Int.reduceAdd, Int.reduceSub]
            exact r_Mod_clashOf_119 (bad () (c1bad () e (Or.inl ha)) _ _ 1)
        · refine t_mAt hS m s0 s1 (by omega) ?_
          simp only [hS, zrI, zrL, zrR, Shp_wI, Shp_wJ, zR_wI, zR_wJ, zJ_wI, zI_wJ, zobj_wI, zobj_wJ, zarr_wI, zarr_wJ, zS_wI, zS_wJ, o_192, a_193, a_194, a_195, a_196, a_197, a_198, a_199, a_200, a_201, a_202, a_203, a_204, a_205, a_206, a_207, a_208, a_209, a_210, r_192_0, r_192_1, r_192_2, r_192_3, r_192_4, r_192_5, r_192_7, r_192_8, r_192_14, r_192_16, r_192_17, r_192_18, r_192_19, r_192_20, r_192_22, r_192_23, r_192_25, r_192_26, zrI, zrL, zrR, ne_eq, true_and, and_true, true_or, or_true, not_true_eq_false, not_false_eq_true, false_and, and_false, forall_const, true_implies, false_implies, implies_true, reduceCtorEq, Int.reduceEq, Int.reduceNe, Int.reduceLT, Int.reduceLE, Int.reduceNeg, Nat.reduceEqDiff, if_true, if_false, reduceIte, Int.reduceMul, Int.reduceAdd, Int.reduceSub]
          refine ⟨by omega, by omega, t_mAt hS m s0 s1 (by omega) ?_⟩
          simp only [hS, zrI, zrL, zrR, Shp_wI, Shp_wJ, zR_wI, zR_wJ, zJ_wI, zI_wJ, zobj_wI, zobj_wJ, zarr_wI, zarr_wJ, zS_wI, zS_wJ, o_192, a_193, a_194, a_195, a_196, a_197, a_198, a_199, a_200, a_201, a_202, a_203, a_204, a_205, a_206, a_207, a_208, a_209, a_210, r_192_0, r_192_1, r_192_2, r_192_3, r_192_4, r_192_5, r_192_7, r_192_8, r_192_14, r_192_16, r_192_17, r_192_18, r_192_19, r_192_20, r_192_22, r_192_23, r_192_25, r_192_26, zrI, zrL, zrR, ne_eq, true_and, and_true, true_or, or_true, not_true_eq_false, not_false_eq_true, false_and, and_false, forall_const, true_implies, false_implies, implies_true, reduceCtorEq, Int.reduceEq, Int.reduceNe, Int.reduceLT, Int.reduceLE, Int.reduceNeg, Nat.reduceEqDiff, if_true, if_false, reduceIte, Int.reduceMul, Int.reduceAdd, Int.reduceSub]
          refine t_mGap hS mL l0 l1 e hr1.1 (by omega) ?_
          simp only [zrI, zrL, zrR, ne_eq, true_and, and_true, true_or, or_true, not_true_eq_false, not_false_eq_true, false_and, and_false, forall_const, true_implies, false_implies, implies_true, reduceCtorEq, Int.reduceEq, Int.reduceNe, Int.reduceLT, Int.reduceLE, Int.reduceNeg, Nat.reduceEqDiff, if_true, if_false, reduceIte, Int.reduceMul, Int.reduceAdd, Int.reduceSub]
          exact ⟨fun c => r_Mod_clashOf_187 (bad () ((hb2 () e).mpr (by omega)) _ _ 1), fun c => c159 () e (Or.inr c) _ _ 1 hy⟩
        · refine t_mNum hS mL l0 l1 (by omega) (by omega) ?_
          simp only [hS, zrI, zrL, zrR, Shp_wI, Shp_wJ, zR_wI, zR_wJ, zJ_wI, zI_wJ, zobj_wI, zobj_wJ, zarr_wI, zarr_wJ, zS_wI, zS_wJ, o_192, a_193, a_194, a_195, a_196, a_197, a_198, a_199, a_200, a_201, a_202, a_203, a_204, a_205, a_206, a_207, a_208, a_209, a_210, r_192_0, r_192_1, r_192_2, r_192_3, r_192_4, r_192_5, r_192_7, r_192_8, r_192_14, r_192_16, r_192_17, r_192_18, r_192_19, r_192_20, r_192_22, r_192_23, r_192_25, r_192_26, zrI, zrL, zrR, ne_eq, true_and, and_true, true_or, or_true, not_true_eq_false, not_false_eq_true, false_and, and_false, forall_const, true_implies, false_implies, implies_true, reduceCtorEq, Int.reduceEq, Int.reduceNe, Int.reduceLT, Int.reduceLE, Int.reduceNeg, Nat.reduceEqDiff, if_true, if_false, reduceIte, Int.reduceMul, Int.reduceAdd, Int.reduceSub]
          refine ⟨fun c => r_Mod_clashOf_219 (bad () ((hb3 () e).mpr (by omega)) _ _ 1), fun c => t_mNum hS mL l0 l1 (by omega) (by omega) ?_⟩
          simp only [zrI, zrL, zrR, ne_eq, true_and, and_true, true_or, or_true, not_true_eq_false, not_false_eq_true, false_and, and_false, forall_const, true_implies, false_implies, implies_true, reduceCtorEq, Int.reduceEq, Int.reduceNe, Int.reduceLT, Int.reduceLE, Int.reduceNeg, Nat.reduceEqDiff, if_true, if_false, reduceIte, Int.reduceMul, Int.reduceAdd, Int.reduceSub]
          exact ⟨fun c => r_Mod_clashOf_219 (bad () ((hb3 () e).mpr (by omega)) _ _ 1), fun c => good () (by rw [hb3 () e]; omega) _ _ 1 hy⟩
        · refine t_mColumn hS m s0 s1 hp i0 ?_
          simp only [zrI, zrL, zrR, ne_eq, true_and, and_true, true_or, or_true, not_true_eq_false, not_false_eq_true, false_and, and_false, forall_const, true_implies, false_implies, implies_true, reduceCtorEq, Int.reduceEq, Int.reduceNe, Int.reduceLT, Int.reduceLE, Int.reduceNeg, Nat.reduceEqDiff, if_true, if_false, reduceIte, Int.reduceMul, Int.reduceAdd, Int.reduceSub]
          exact ⟨fun c => bad () ((hb4 () e).mpr c) _ _ 1, fun c => good () (by rw [hb4 () e]; omega) _ _ 1 hy⟩
      refine r_Mod_clashOf_5 ?_
      simp only [hS, g1, zrI, zrL, zrR, Shp_wI, Shp_wJ, zR_wI, zR_wJ, zJ_wI, zI_wJ, zobj_wI, zobj_wJ, zarr_wI, zarr_wJ, zS_wI, zS_wJ, o_192, a_193, a_194, a_195, a_196, a_197, a_198, a_199, a_200, a_201, a_202, a_203, a_204, a_205, a_206, a_207, a_208, a_209, a_210, r_192_0, r_192_1, r_192_2, r_192_3, r_192_4, r_192_5, r_192_7, r_192_8, r_192_14, r_192_16, r_192_17, r_192_18, r_192_19, r_192_20, r_192_22, r_192_23, r_192_25, r_192_26, zrI, zrL, zrR, ne_eq, true_and, and_true, true_or, or_true, not_true_eq_false, not_false_eq_true, false_and, and_false, forall_const, true_implies, false_implies, implies_true, reduceCtorEq, Int.reduceEq, Int.reduceNe, Int.reduceLT, Int.reduceLE, Int.reduceNeg, Nat.reduceEqDiff, if_true, if_false, reduceIte, Int.reduceMul, Int.reduceAdd, Int.reduceSub]
      repeat' first | omega | exact Or.inl (by omega) | apply And.intro | refine fun (_ : _ ≤ _) => ?_ | refine fun (_ : _ < _) => ?_ | refine fun (_ : _ = _) => ?_ | refine fun (_ : ¬ (_ = _)) => ?_ | refine fun (_ : _ ∨ _) => ?_
      refine t_mAt hS m s0 s1 i0 ?_
      simp only [hS, zrI, zrL, zrR, Shp_wI, Shp_wJ, zR_wI, zR_wJ, zJ_wI, zI_wJ, zobj_wI, zobj_wJ, zarr_wI, zarr_wJ, zS_wI, zS_wJ, o_192, a_193, a_194, a_195, a_196, a_197, a_198, a_199, a_200, a_201, a_202, a_203, a_204, a_205, a_206, a_207, a_208, a_209, a_210, r_192_0, r_192_1, r_192_2, r_192_3, r_192_4, r_192_5, r_192_7, r_192_8, r_192_14, r_192_16, r_192_17, r_192_18, r_192_19, r_192_20, r_192_22, r_192_23, r_192_25, r_192_26, zrI, zrL, zrR, ne_eq, true_and, and_true, true_or, or_true, not_true_eq_false, not_false_eq_true, false_and, and_false, forall_const, true_implies, false_implies, implies_true, reduceCtorEq, Int.reduceEq, Int.reduceNe, Int.reduceLT, Int.reduceLE, Int.reduceNeg, Nat.reduceEqDiff, if_true, if_false, reduceIte, Int.reduceMul, Int.reduceAdd, Int.reduceSub]
      repeat' first | omega | exact Or.inl (by omega) | apply And.intro | refine fun (_ : _ ≤ _) => ?_ | refine fun (_ : _ < _) => ?_ | refine fun (_ : _ = _) => ?_ | refine fun (_ : ¬ (_ = _)) => ?_ | refine fun (_ : _ ∨ _) => ?_
      · exact c50 () (Or.inl (by omega)) _ _ _
      · refine t_mAt hS m s0 s1 (by omega) ?_
        simp only [hS, zrI, zrL, zrR, Shp_wI, Shp_wJ, zR_wI, zR_wJ, zJ_wI, zI_wJ, zobj_wI, zobj_wJ, zarr_wI, zarr_wJ, zS_wI, zS_wJ, o_192, a_193, a_194, a_195, a_196, a_197, a_198, a_199, a_200, a_201, a_202, a_203, a_204, a_205, a_206, a_207, a_208, a_209, a_210, r_192_0, r_192_1, r_192_2, r_192_3, r_192_4, r_192_5, r_192_7, r_192_8, r_192_14, r_192_16, r_192_17, r_192_18, r_192_19, r_192_20, r_192_22, r_192_23, r_192_25, r_192_26, zrI, zrL, zrR, ne_eq, true_and, and_true, true_or, or_true, not_true_eq_false, not_false_eq_true, false_and, and_false, forall_const, true_implies, false_implies, implies_true, reduceCtorEq, Int.reduceEq, Int.reduceNe, Int.reduceLT, Int.reduceLE, Int.reduceNeg, Nat.reduceEqDiff, if_true, if_false, reduceIte, Int.reduceMul, Int.reduceAdd, Int.reduceSub]
        refine ⟨fun c => c50 () (Or.inr c) _ _ _, fun c => ⟨by have := hx (by omega); omega, ?_⟩⟩
        have hy : x + 1 = likeN (M s) i.toNat := by rw [likeN_step (by omega), if_pos c.symm, hx (by omega)]
        refine t_mKind hS mL l0 l1 ?_
        simp only [hS, zrI, zrL, zrR, Shp_wI, Shp_wJ, zR_wI, zR_wJ, zJ_wI, zI_wJ, zobj_wI, zobj_wJ, zarr_wI, zarr_wJ, zS_wI, zS_wJ, o_192, a_193, a_194, a_195, a_196, a_197, a_198, a_199, a_200, a_201, a_202, a_203, a_204, a_205, a_206, a_207, a_208, a_209, a_210, r_192_0, r_192_1, r_192_2, r_192_3, r_192_4, r_192_5, r_192_7, r_192_8, r_192_14, r_192_16, r_192_17, r_192_18, r_192_19, r_192_20, r_192_22, r_192_23, r_192_25, r_192_26, zrI, zrL, zrR, ne_eq, true_and, and_true, true_or, or_true, not_true_eq_false, not_false_eq_true, false_and, and_false, forall_const, true_implies, false_implies, implies_true, reduceCtorEq, Int.reduceEq, Int.reduceNe, Int.reduceLT, Int.reduceLE, Int.reduceNeg, Nat.reduceEqDiff, if_true, if_false, reduceIte, Int.reduceMul, Int.reduceAdd, Int.reduceSub]
        refine ⟨fun e => good () (by unfold badP; omega) _ _ _ hy, fun e => ?_, fun e => ⟨fun e2 => c159 () e (Or.inl e2) _ _ _ hy, fun e2 => ⟨by omega, ?_⟩⟩, fun e => ?_, fun e => ?_, fun e => c250 () e _ hy (ga (M s) i).toNat 0 1 (by omega) (by omega) (Or.inl ⟨rfl, fun a a0 a1 => by omega⟩)⟩
        · refine t_mLets hS mL l0 l1 (Or.inr e) hr.1 (by omega) (fun ha => ?_) (fun ha => ?_)
          · simp only [hS, zrI, zrL, zrR, Shp_wI, Shp_wJ, zR_wI, zR_wJ, zJ_wI, zI_wJ, zobj_wI, zobj_wJ, zarr_wI, zarr_wJ, zS_wI, zS_wJ, o_192, a_193, a_194, a_195, a_196, a_197, a_198, a_199, a_200, a_201, a_202, a_203, a_204, a_205, a_206, a_207, a_208, a_209, a_210, r_192_0, r_192_1, r_192_2, r_192_3, r_192_4, r_192_5, r_192_7, r_192_8, r_192_14, r_192_16, r_192_17, r_192_18, r_192_19, r_192_20, r_192_22, r_192_23, r_192_25, r_192_26, zrI, zrL, zrR, ne_eq, true_and, and_true, true_or, or_true, not_true_eq_false, not_false_eq_true, false_and, and_false, forall_const, true_implies, false_implies, implies_true, reduceCtorEq, Int.reduceEq, Int.reduceNe, Int.reduceLT, Int.reduceLE, Int.reduceNeg, Nat.reduceEqDiff, if_true, if_false, reduceIte, Int.reduceMul, Int.reduceAdd, Int.reduceSub]
            refine t_mTimes hS mL l0 l1 ?_
            simp only [zrI, zrL, zrR, ne_eq, true_and, and_true, true_or, or_true, not_true_eq_false, not_false_eq_true, false_and, and_false, forall_const, true_implies, false_implies, implies_true, reduceCtorEq, Int.reduceEq, Int.reduceNe, Int.reduceLT, Int.reduceLE, Int.reduceNeg, Nat.reduceEqDiff, if_true, if_false, reduceIte, Int.reduceMul, Int.reduceAdd, Int.reduceSub]
            exact ⟨fun c => r_Mod_clashOf_119 (bad () (c1bad () e (Or.inr (by omega))) _ _ _), fun c => good () (c1good () e ha (by omega)) _ _ _ hy⟩
          · simp only [hS, zrI, zrL, zrR, Shp_wI, Shp_wJ, zR_wI, zR_wJ, zJ_wI, zI_wJ, zobj_wI, zobj_wJ, zarr_wI, zarr_wJ, zS_wI, zS_wJ, o_192, a_193, a_194, a_195, a_196, a_197, a_198, a_199, a_200, a_201, a_202, a_203, a_204, a_205, a_206, a_207, a_208, a_209, a_210, r_192_0, r_192_1, r_192_2, r_192_3, r_192_4, r_192_5, r_192_7, r_192_8, r_192_14, r_192_16, r_192_17, r_192_18, r_192_19, r_192_20, r_192_22, r_192_23, r_192_25, r_192_26, zrI, zrL, zrR, ne_eq, true_and, and_true, true_or, or_true, not_true_eq_false, not_false_eq_true, false_and, and_false, forall_const, true_implies, false_implies, implies_true, reduceCtorEq, Int.reduceEq, Int.reduceNe, Int.reduceLT, Int.reduceLE, Int.reduceNeg, Nat.reduceEqDiff, if_true, if_false, reduceIte, Int.reduceMul, Int.reduceAdd, Int.reduceSub]
            exact r_Mod_clashOf_119 (bad () (c1bad () e (Or.inl ha)) _ _ _)
        · refine t_mAt hS m s0 s1 (by omega) ?_
          simp only [hS, zrI, zrL, zrR, Shp_wI, Shp_wJ, zR_wI, zR_wJ, zJ_wI, zI_wJ, zobj_wI, zobj_wJ, zarr_wI, zarr_wJ, zS_wI, zS_wJ, o_192, a_193, a_194, a_195, a_196, a_197, a_198, a_199, a_200, a_201, a_202, a_203, a_204, a_205, a_206, a_207, a_208, a_209, a_210, r_192_0, r_192_1, r_192_2, r_192_3, r_192_4, r_192_5, r_192_7, r_192_8, r_192_14, r_192_16, r_192_17, r_192_18, r_192_19, r_192_20, r_192_22, r_192_23, r_192_25, r_192_26, zrI, zrL, zrR, ne_eq, true_and, and_true, true_or, or_true, not_true_eq_false, not_false_eq_true, false_and, and_false, forall_const, true_implies, false_implies, implies_true, reduceCtorEq, Int.reduceEq, Int.reduceNe, Int.reduceLT, Int.reduceLE, Int.reduceNeg, Nat.reduceEqDiff, if_true, if_false, reduceIte, Int.reduceMul, Int.reduceAdd, Int.reduceSub]
          refine ⟨by omega, by omega, t_mAt hS m s0 s1 (by omega) ?_⟩
          simp only [hS, zrI, zrL, zrR, Shp_wI, Shp_wJ, zR_wI, zR_wJ, zJ_wI, zI_wJ, zobj_wI, zobj_wJ, zarr_wI, zarr_wJ, zS_wI, zS_wJ, o_192, a_193, a_194, a_195, a_196, a_197, a_198, a_199, a_200, a_201, a_202, a_203, a_204, a_205, a_206, a_207, a_208, a_209, a_210, r_192_0, r_192_1, r_192_2, r_192_3, r_192_4, r_192_5, r_192_7, r_192_8, r_192_14, r_192_16, r_192_17, r_192_18, r_192_19, r_192_20, r_192_22, r_192_23, r_192_25, r_192_26, zrI, zrL, zrR, ne_eq, true_and, and_true, true_or, or_true, not_true_eq_false, not_false_eq_true, false_and, and_false, forall_const, true_implies, false_implies, implies_true, reduceCtorEq, Int.reduceEq, Int.reduceNe, Int.reduceLT, Int.reduceLE, Int.reduceNeg, Nat.reduceEqDiff, if_true, if_false, reduceIte, Int.reduceMul, Int.reduceAdd, Int.reduceSub]
          refine t_mGap hS mL l0 l1 e hr1.1 (by omega) ?_
          simp only [zrI, zrL, zrR, ne_eq, true_and, and_true, true_or, or_true, not_true_eq_false, not_false_eq_true, false_and, and_false, forall_const, true_implies, false_implies, implies_true, reduceCtorEq, Int.reduceEq, Int.reduceNe, Int.reduceLT, Int.reduceLE, Int.reduceNeg, Nat.reduceEqDiff, if_true, if_false, reduceIte, Int.reduceMul, Int.reduceAdd, Int.reduceSub]
          exact ⟨fun c => r_Mod_clashOf_187 (bad () ((hb2 () e).mpr (by omega)) _ _ _), fun c => c159 () e (Or.inr c) _ _ _ hy⟩
        · refine t_mNum hS mL l0 l1 (by omega) (by omega) ?_
          simp only [hS, zrI, zrL, zrR, Shp_wI, Shp_wJ, zR_wI, zR_wJ, zJ_wI, zI_wJ, zobj_wI, zobj_wJ, zarr_wI, zarr_wJ, zS_wI, zS_wJ, o_192, a_193, a_194, a_195, a_196, a_197, a_198, a_199, a_200, a_201, a_202, a_203, a_204, a_205, a_206, a_207, a_208, a_209, a_210, r_192_0, r_192_1, r_192_2, r_192_3, r_192_4, r_192_5, r_192_7, r_192_8, r_192_14, r_192_16, r_192_17, r_192_18, r_192_19, r_192_20, r_192_22, r_192_23, r_192_25, r_192_26, zrI, zrL, zrR, ne_eq, true_and, and_true, true_or, or_true, not_true_eq_false, not_false_eq_true, false_and, and_false, forall_const, true_implies, false_implies, implies_true, reduceCtorEq, Int.reduceEq, Int.reduceNe, Int.reduceLT, Int.reduceLE, Int.reduceNeg, Nat.reduceEqDiff, if_true, if_false, reduceIte, Int.reduceMul, Int.reduceAdd, Int.reduceSub]
          refine ⟨fun c => r_Mod_clashOf_219 (bad () ((hb3 () e).mpr (by omega)) _ _ _), fun c => t_mNum hS mL l0 l1 (by omega) (by omega) ?_⟩
          simp only [zrI, zrL, zrR, ne_eq, true_and, and_true, true_or, or_true, not_true_eq_false, not_false_eq_true, false_and, and_false, forall_const, true_implies, false_implies, implies_true, reduceCtorEq, Int.reduceEq, Int.reduceNe, Int.reduceLT, Int.reduceLE, Int.reduceNeg, Nat.reduceEqDiff, if_true, if_false, reduceIte, Int.reduceMul, Int.reduceAdd, Int.reduceSub]
          exact ⟨fun c => r_Mod_clashOf_219 (bad () ((hb3 () e).mpr (by omega)) _ _ _), fun c => good () (by rw [hb3 () e]; omega) _ _ _ hy⟩
        · refine t_mColumn hS m s0 s1 hp i0 ?_
          simp only [zrI, zrL, zrR, ne_eq, true_and, and_true, true_or, or_true, not_true_eq_false, not_false_eq_true, false_and, and_false, forall_const, true_implies, false_implies, implies_true, reduceCtorEq, Int.reduceEq, Int.reduceNe, Int.reduceLT, Int.reduceLE, Int.reduceNeg, Nat.reduceEqDiff, if_true, if_false, reduceIte, Int.reduceMul, Int.reduceAdd, Int.reduceSub]
          exact ⟨fun c => bad () ((hb4 () e).mpr c) _ _ _, fun c => good () (by rw [hb4 () e]; omega) _ _ _ hy⟩
  exact r_Mod_clashOf_0 (key (M s).length 0 0 _ _ _ (by omega) (by omega) (fun c => by omega) (fun j j0 j1 => by omega))
theorem m_clash {Q : ZQ} {σ : ZM} {N : List (Int × List Int)} {S : Int → List Int} {L : Int → LW} {l s : Int} (h : MI σ S N) (hp : PtS S) (mL : MLaw σ L) (hl : -2147483648 ≤ l ∧ l ≤ 2147483647) (hs : -2147483648 ≤ s ∧ s ≤ 2147483647)
    (q0 : (l < 0 ∨ 7 < l ∨ s < 0 ∨ 7 < s) → Q (zi (-2)) σ) (q1 : 0 ≤ l → l ≤ 7 → 0 ≤ s → s ≤ 7 → ∀ r, ClashR (L l) (S s) r → Q (zi r) σ) : WP m_Mod_clash 0 [zr 192, zi l, zi s] [] σ (0, 0) Q := by
  obtain ⟨hS, hn, M, m, hM⟩ := h
  refine r_Mod_clash_0 (t_inN (n := 0) (m := 7) hl (by decide) (by decide) (fun l0 l1 => ?_) (fun c => ?_))
  · simp only [hS, zrI, zrL, zrR, Shp_wI, Shp_wJ, zR_wI, zR_wJ, zJ_wI, zI_wJ, zobj_wI, zobj_wJ, zarr_wI, zarr_wJ, zS_wI, zS_wJ, o_192, a_193, a_194, a_195, a_196, a_197, a_198, a_199, a_200, a_201, a_202, a_203, a_204, a_205, a_206, a_207, a_208, a_209, a_210, r_192_0, r_192_1, r_192_2, r_192_3, r_192_4, r_192_5, r_192_7, r_192_8, r_192_14, r_192_16, r_192_17, r_192_18, r_192_19, r_192_20, r_192_22, r_192_23, r_192_25, r_192_26, zrI, zrL, zrR, ne_eq, true_and, and_true, true_or, or_true, not_true_eq_false, not_false_eq_true, false_and, and_false, forall_const, true_implies, false_implies, implies_true, reduceCtorEq, Int.reduceEq, Int.reduceNe, Int.reduceLT, Int.reduceLE, Int.reduceNeg, Nat.reduceEqDiff, if_true, if_false, reduceIte, Int.reduceMul, Int.reduceAdd, Int.reduceSub]
    refine t_mSheet hs (fun s0 s1 => ?_) (fun c => ?_)
    · simp only [hS, zrI, zrL, zrR, Shp_wI, Shp_wJ, zR_wI, zR_wJ, zJ_wI, zI_wJ, zobj_wI, zobj_wJ, zarr_wI, zarr_wJ, zS_wI, zS_wJ, o_192, a_193, a_194, a_195, a_196, a_197, a_198, a_199, a_200, a_201, a_202, a_203, a_204, a_205, a_206, a_207, a_208, a_209, a_210, r_192_0, r_192_1, r_192_2, r_192_3, r_192_4, r_192_5, r_192_7, r_192_8, r_192_14, r_192_16, r_192_17, r_192_18, r_192_19, r_192_20, r_192_22, r_192_23, r_192_25, r_192_26, zrI, zrL, zrR, ne_eq, true_and, and_true, true_or, or_true, not_true_eq_false, not_false_eq_true, false_and, and_false, forall_const, true_implies, false_implies, implies_true, reduceCtorEq, Int.reduceEq, Int.reduceNe, Int.reduceLT, Int.reduceLE, Int.reduceNeg, Nat.reduceEqDiff, if_true, if_false, reduceIte, Int.reduceMul, Int.reduceAdd, Int.reduceSub]
      have eM := hM s s0 s1
      refine t_mClashOf hS m mL (by omega) (by omega) s0 (by omega) (by rw [eM]; exact hp s s0 s1) (fun r hr => ?_)
      rw [eM] at hr
      exact q1 (by omega) (by omega) s0 s1 r hr
    · simp only [zrI, zrL, zrR, ne_eq, true_and, and_true, true_or, or_true, not_true_eq_false, not_false_eq_true, false_and, and_false, forall_const, true_implies, false_implies, implies_true, reduceCtorEq, Int.reduceEq, Int.reduceNe, Int.reduceLT, Int.reduceLE, Int.reduceNeg, Nat.reduceEqDiff, if_true, if_false, reduceIte, Int.reduceMul, Int.reduceAdd, Int.reduceSub]
      exact q0 (by omega)
  · simp only [zrI, zrL, zrR, ne_eq, true_and, and_true, true_or, or_true, not_true_eq_false, not_false_eq_true, false_and, and_false, forall_const, true_implies, false_implies, implies_true, reduceCtorEq, Int.reduceEq, Int.reduceNe, Int.reduceLT, Int.reduceLE, Int.reduceNeg, Nat.reduceEqDiff, if_true, if_false, reduceIte, Int.reduceMul, Int.reduceAdd, Int.reduceSub]
    exact q0 (by omega)
theorem m_told {Q : ZQ} {σ : ZM} {N : List (Int × List Int)} {S : Int → List Int} {L : Int → LW} {x : Int} (h : MI σ S N) (mL : MLaw σ L) (hx : -2147483648 ≤ x ∧ x ≤ 2147483647) (q0 : (x < 0 ∨ 8 < x) → Q (zi (-1)) σ) (q8 : x = 8 → Q (zi (N.length : Int)) σ) (q1 : 0 ≤ x → x ≤ 7 → Q (zi (L x 0)) σ) : WP m_Mod_told 0 [zr 192, zi x] [] σ (0, 0) Q := by
  obtain ⟨hS, hn, M, m, hM⟩ := h
  refine r_Mod_told_0 (t_inN (n := 0) (m := 7) hx (by decide) (by decide) (fun l0 l1 => ?_) (fun c => ?_))
  · have e := (mL x (by omega) (by omega)).2 0 (by omega) (by omega)
    rw [show 5 * x + 0 = 5 * x by omega] at e
    simp only [hS, e, zrI, zrL, zrR, Shp_wI, Shp_wJ, zR_wI, zR_wJ, zJ_wI, zI_wJ, zobj_wI, zobj_wJ, zarr_wI, zarr_wJ, zS_wI, zS_wJ, o_192, a_193, a_194, a_195, a_196, a_197, a_198, a_199, a_200, a_201, a_202, a_203, a_204, a_205, a_206, a_207, a_208, a_209, a_210, r_192_0, r_192_1, r_192_2, r_192_3, r_192_4, r_192_5, r_192_7, r_192_8, r_192_14, r_192_16, r_192_17, r_192_18, r_192_19, r_192_20, r_192_22, r_192_23, r_192_25, r_192_26, zrI, zrL, zrR, ne_eq, true_and, and_true, true_or, or_true, not_true_eq_false, not_false_eq_true, false_and, and_false, forall_const, true_implies, false_implies, implies_true, reduceCtorEq, Int.reduceEq, Int.reduceNe, Int.reduceLT, Int.reduceLE, Int.reduceNeg, Nat.reduceEqDiff, if_true, if_false, reduceIte, Int.reduceMul, Int.reduceAdd, Int.reduceSub]
    repeat' first | omega | exact Or.inl (by omega) | apply And.intro | refine fun (_ : _ ≤ _) => ?_ | refine fun (_ : _ < _) => ?_ | refine fun (_ : _ = _) => ?_ | refine fun (_ : ¬ (_ = _)) => ?_ | refine fun (_ : _ ∨ _) => ?_
    exact q1 (by omega) (by omega)
  · simp only [hS, hn.1, zrI, zrL, zrR, Shp_wI, Shp_wJ, zR_wI, zR_wJ, zJ_wI, zI_wJ, zobj_wI, zobj_wJ, zarr_wI, zarr_wJ, zS_wI, zS_wJ, o_192, a_193, a_194, a_195, a_196, a_197, a_198, a_199, a_200, a_201, a_202, a_203, a_204, a_205, a_206, a_207, a_208, a_209, a_210, r_192_0, r_192_1, r_192_2, r_192_3, r_192_4, r_192_5, r_192_7, r_192_8, r_192_14, r_192_16, r_192_17, r_192_18, r_192_19, r_192_20, r_192_22, r_192_23, r_192_25, r_192_26, zrI, zrL, zrR, ne_eq, true_and, and_true, true_or, or_true, not_true_eq_false, not_false_eq_true, false_and, and_false, forall_const, true_implies, false_implies, implies_true, reduceCtorEq, Int.reduceEq, Int.reduceNe, Int.reduceLT, Int.reduceLE, Int.reduceNeg, Nat.reduceEqDiff, if_true, if_false, reduceIte, Int.reduceMul, Int.reduceAdd, Int.reduceSub]
    repeat' first | omega | exact Or.inl (by omega) | apply And.intro | refine fun (_ : _ ≤ _) => ?_ | refine fun (_ : _ < _) => ?_ | refine fun (_ : _ = _) => ?_ | refine fun (_ : ¬ (_ = _)) => ?_ | refine fun (_ : _ ∨ _) => ?_
    exact q0 (by omega)
