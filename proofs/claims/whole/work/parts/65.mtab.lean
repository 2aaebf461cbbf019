/-! the tables of the reference, on -/
set_option maxHeartbeats 2000000 in
theorem t_mFirsts {Q : ZQ} {σ : ZM} {L : Int → LW} {l : Int} (hS : Shp σ) (mL : MLaw σ L) (l0 : 0 ≤ l) (l1 : l ≤ 7) (hk : L l 0 = 2) (q : ∀ σ', MTab σ' (L l) → Fr (fun a => a = 199 ∨ a = 200) σ σ' → Q zu σ') : WP m_Mod_makeFirsts 0 [zr 192, zi l, zu, zu, zu, zu, zu] [] σ (0, 0) Q := by
  have ok := (mL l l0 l1).1
  have h4 : 1 ≤ L l 4 ∧ L l 4 ≤ 20 := by unfold lawOK canB at ok; omega
  generalize hg : gapF (L l) = gp at *
  generalize hle : (L l 4).toNat = le at *
  have hgap : ∀ v : Nat, gapN (L l) (v : Int) = (gp v : Int) := fun v => by
    have := gapN_bd (w := L l) (v := (v : Int)) ok hk
    rw [← hg]
    unfold gapF
    omega
  have done : ∀ τ : ZM, (∀ v r : Nat, v ≤ 400 → r ≤ 400 → zJ τ 199 (401 * (v : Int) + (r : Int)) = Int64.ofNat (gB gp le v r) ∧ zJ τ 200 (401 * (v : Int) + (r : Int)) = if r = 0 then 0 else Int64.ofNat (GB gp le v r)) → MTab τ (L l) := fun τ h => by
    refine ⟨fun c => absurd hk c, fun _ => ?_⟩
    rw [hg, hle]
    exact ⟨fun v r a b => (h v r a b).1, fun v r a b => (h v r a b).2⟩
  have inner : ∀ (r : Nat), r ≤ 400 →
      (∀ (τ : ZM) (u3 u4 u5 u6 : PV), (∀ v r' : Nat, v ≤ 400 → r' < r + 1 → zJ τ 199 (401 * (v : Int) + (r' : Int)) = Int64.ofNat (gB gp le v r') ∧ zJ τ 200 (401 * (v : Int) + (r' : Int)) = if r' = 0 then 0 else Int64.ofNat (GB gp le v r')) → Fr (fun a => a = 199 ∨ a = 200) σ τ → WP m_Mod_makeFirsts 2 [zr 192, zi l, zi ((r : Int) + 1), u3, u4, u5, u6] [] τ (0, 0) Q) →
      ∀ (m v : Nat) (τ : ZM) (u4 u5 u6 : PV), v + m = 401 → (∀ v' r' : Nat, v' ≤ 400 → r' < r → zJ τ 199 (401 * (v' : Int) + (r' : Int)) = Int64.ofNat (gB gp le v' r') ∧ zJ τ 200 (401 * (v' : Int) + (r' : Int)) = if r' = 0 then 0 else Int64.ofNat (GB gp le v' r')) → (∀ v' : Nat, v' < v → zJ τ 199 (401 * (v' : Int) + (r : Int)) = Int64.ofNat (gB gp le v' r) ∧ zJ τ 200 (401 * (v' : Int) + (r : Int)) = if r = 0 then 0 else Int64.ofNat (GB gp le v' r)) → Fr (fun a => a = 199 ∨ a = 200) σ τ → WP m_Mod_makeFirsts 11 [zr 192, zi l, zi (r : Int), zi (v : Int), u4, u5, u6] [] τ (0, 0) Q := by
    intro r r4 next m
    induction m with
    | zero =>
      intro v τ u4 u5 u6 hm hv hr f
      refine r_Mod_makeFirsts_11 ⟨fun _ => ⟨by omega, next τ _ _ _ _ (fun v' r' h1 h2 => ?_) f⟩, fun c => by omega⟩
      by_cases e : r' = r
      · rw [e]; exact hr v' (by omega)
      · exact hv v' r' h1 (by omega)
    | succ m ih =>
      intro v τ u4 u5 u6 hm hv hr f
      have hT := f.shp hS
      have mT : MLaw τ L := (f.z (P' := fun a _ => a = 199 ∨ a = 200) (fun a j w => w)).mlaw (fun j => by omega) mL
      have c92 : ∀ (x : Int64) (u6 : PV), x = Int64.ofNat (gB gp le v r) → WP m_Mod_makeFirsts 92 [zr 192, zi l, zi (r : Int), zi (v : Int), zl x, zu, u6] [] τ (0, 0) Q := fun x u6 hx => by
        have fin : ∀ y : Int64, y = (if r = 0 then 0 else Int64.ofNat (GB gp le v r)) → WP m_Mod_makeFirsts 11 [zr 192, zi l, zi (r : Int), zi ((v : Int) + 1), zl x, zu, u6] [] (wJ (wJ τ 199 (401 * (v : Int) + (r : Int)) x) 200 (401 * (v : Int) + (r : Int)) y) (0, 0) Q := fun y hy => by
          have := ih (v + 1) (wJ (wJ τ 199 (401 * (v : Int) + (r : Int)) x) 200 (401 * (v : Int) + (r : Int)) y) (zl x) zu u6 (by omega) (fun v' r' h1 h2 => ?_) (fun v' h1 => ?_) ((f.tr (Fr.wJ (Or.inl rfl))).tr (Fr.wJ (Or.inr rfl)))
          · rw [Int.natCast_succ] at this
            exact this
          · rw [zJ_wJ, if_neg (by omega), zJ_wJ, if_neg (by omega), zJ_wJ, if_neg (by omega), zJ_wJ, if_neg (by omega)]
            exact hv v' r' h1 h2
          · by_cases e : v' = v
            · rw [e, zJ_wJ, if_neg (by omega), zJ_wJ, if_pos ⟨rfl, rfl⟩, zJ_wJ, if_pos ⟨rfl, rfl⟩]
              exact ⟨hx, hy⟩
            · rw [zJ_wJ, if_neg (by omega), zJ_wJ, if_neg (by omega), zJ_wJ, if_neg (by omega), zJ_wJ, if_neg (by omega)]
              exact hr v' (by omega)
        refine r_Mod_makeFirsts_92 ?_
        simp only [hT, zJ_wJ, zrI, zrL, zrR, Shp_wI, Shp_wJ, zR_wI, zR_wJ, zJ_wI, zI_wJ, zobj_wI, zobj_wJ, zarr_wI, zarr_wJ, zS_wI, zS_wJ, o_192, a_193, a_194, a_195, a_196, a_197, a_198, a_199, a_200, a_201, a_202, a_203, a_204, a_205, a_206, a_207, a_208, a_209, a_210, r_192_0, r_192_1, r_192_2, r_192_3, r_192_4, r_192_5, r_192_7, r_192_8, r_192_14, r_192_16, r_192_17, r_192_18, r_192_19, r_192_20, r_192_22, r_192_23, r_192_25, r_192_26, zrI, zrL, zrR, ne_eq, true_and, and_true, true_or, or_true, not_true_eq_false, not_false_eq_true, false_and, and_false, forall_const, true_implies, false_implies, implies_true, reduceCtorEq, Int.reduceEq, Int.reduceNe, Int.reduceLT, Int.reduceLE, Int.reduceNeg, Nat.reduceEqDiff, if_true, if_false, reduceIte, Int.reduceMul, Int.reduceAdd, Int.reduceSub]
        refine ⟨by omega, by omega, by omega, by omega, by omega, fun c => ⟨by omega, by omega, fin _ ?_⟩, fun c => ⟨by omega, by omega, by omega, by omega, by omega, by omega, fin _ ?_⟩⟩
        · rw [hx, show v = 0 by omega]
          have : gB gp le 0 r = 0 := by unfold gB; rw [if_neg (by omega)]
          rw [this]
          split
          · rfl
          · rw [GB_zero, if_neg (by assumption)]; rfl
        · obtain ⟨k, rfl⟩ : ∃ k, v = k + 1 := ⟨v - 1, by omega⟩
          have e := (hr k (by omega)).2
          rw [show 401 * ((k + 1 : Nat) : Int) - 401 + (r : Int) = 401 * (k : Int) + (r : Int) by omega, e, hx]
          split
          · rename_i e0
            have : gB gp le (k + 1) r = 0 := by unfold gB; rw [if_neg (by omega)]
            rw [this]; rfl
          · rw [GB_rec, Int64.ofNat_add]
            grind
      have w0 : ∀ (hvr : v < r) (v1 : 1 ≤ v), gB gp le v r = GB gp le (v - gp v) (r - v) := fun hvr v1 => by
        unfold gB
        by_cases c : le ≤ v
        · rw [if_pos ⟨by omega, c⟩]
        · rw [if_neg (by omega), GB_few (by omega) (by omega)]
      have ew : (401 * ((v : Int) - (gp v : Int)) + (r : Int)) - (v : Int) = 401 * ((v : Int) - (gp v : Int)) + ((r : Int) - (v : Int)) := by omega
      have sums : ∀ (hvr : v < r) (v1 : 1 ≤ v), 0 < (v : Int) - (gp v : Int) → zJ τ 200 (401 * ((v : Int) - (gp v : Int)) + (r : Int) - (v : Int)) = Int64.ofNat (gB gp le v r) := fun hvr v1 hc => by
        have := (hv (v - gp v) (r - v) (by omega) (by omega)).2
        rw [if_neg (by omega), ← w0 hvr v1] at this
        rw [ew, show (v : Int) - (gp v : Int) = ((v - gp v : Nat) : Int) by omega, show (r : Int) - (v : Int) = ((r - v : Nat) : Int) by omega]
        exact this
      have zero : ∀ (hvr : v < r) (v1 : 1 ≤ v), (v : Int) - (gp v : Int) ≤ 0 → gB gp le v r = 0 := fun hvr v1 hc => by
        rw [w0 hvr v1, show v - gp v = 0 by omega, GB_zero, if_neg (by omega)]
      have hgb : gp v ≤ 25 := by
        have := gapN_bd (w := L l) (v := (v : Int)) ok hk
        have := hgap v
        omega
      have c49 : 1 ≤ v → v ≤ r → (v = r → v < le) → ∀ u4 u5 u6 : PV, WP m_Mod_makeFirsts 49 [zr 192, zi l, zi (r : Int), zi (v : Int), u4, u5, u6] [] τ (0, 0) Q := fun v1 vr hne u4 u5 u6 => by
        refine r_Mod_makeFirsts_49 ?_
        simp only [hT, zrI, zrL, zrR, Shp_wI, Shp_wJ, zR_wI, zR_wJ, zJ_wI, zI_wJ, zobj_wI, zobj_wJ, zarr_wI, zarr_wJ, zS_wI, zS_wJ, o_192, a_193, a_194, a_195, a_196, a_197, a_198, a_199, a_200, a_201, a_202, a_203, a_204, a_205, a_206, a_207, a_208, a_209, a_210, r_192_0, r_192_1, r_192_2, r_192_3, r_192_4, r_192_5, r_192_7, r_192_8, r_192_14, r_192_16, r_192_17, r_192_18, r_192_19, r_192_20, r_192_22, r_192_23, r_192_25, r_192_26, zrI, zrL, zrR, ne_eq, true_and, and_true, true_or, or_true, not_true_eq_false, not_false_eq_true, false_and, and_false, forall_const, true_implies, false_implies, implies_true, reduceCtorEq, Int.reduceEq, Int.reduceNe, Int.reduceLT, Int.reduceLE, Int.reduceNeg, Nat.reduceEqDiff, if_true, if_false, reduceIte, Int.reduceMul, Int.reduceAdd, Int.reduceSub]
        refine t_mGap hT mT l0 l1 hk (by omega) (by omega) ?_
        rw [hgap v]
        simp only [hT, zrI, zrL, zrR, Shp_wI, Shp_wJ, zR_wI, zR_wJ, zJ_wI, zI_wJ, zobj_wI, zobj_wJ, zarr_wI, zarr_wJ, zS_wI, zS_wJ, o_192, a_193, a_194, a_195, a_196, a_197, a_198, a_199, a_200, a_201, a_202, a_203, a_204, a_205, a_206, a_207, a_208, a_209, a_210, r_192_0, r_192_1, r_192_2, r_192_3, r_192_4, r_192_5, r_192_7, r_192_8, r_192_14, r_192_16, r_192_17, r_192_18, r_192_19, r_192_20, r_192_22, r_192_23, r_192_25, r_192_26, zrI, zrL, zrR, ne_eq, true_and, and_true, true_or, or_true, not_true_eq_false, not_false_eq_true, false_and, and_false, forall_const, true_implies, false_implies, implies_true, reduceCtorEq, Int.reduceEq, Int.reduceNe, Int.reduceLT, Int.reduceLE, Int.reduceNeg, Nat.reduceEqDiff, if_true, if_false, reduceIte, Int.reduceMul, Int.reduceAdd, Int.reduceSub]
        refine ⟨by omega, fun c => c92 _ _ ?_, fun c => ⟨fun c2 => c92 _ _ ?_, fun c2 => ⟨by omega, by omega, by omega, by omega, c92 _ _ ?_⟩⟩⟩
        · have : gB gp le v r = 0 := by unfold gB; rw [if_neg (by omega)]
          rw [this]; rfl
        · rw [zero (by omega) v1 c2]; rfl
        · rw [sums (by omega) v1 c2]
          simp
      refine r_Mod_makeFirsts_11 ?_
      simp only [hT, zrI, zrL, zrR, Shp_wI, Shp_wJ, zR_wI, zR_wJ, zJ_wI, zI_wJ, zobj_wI, zobj_wJ, zarr_wI, zarr_wJ, zS_wI, zS_wJ, o_192, a_193, a_194, a_195, a_196, a_197, a_198, a_199, a_200, a_201, a_202, a_203, a_204, a_205, a_206, a_207, a_208, a_209, a_210, r_192_0, r_192_1, r_192_2, r_192_3, r_192_4, r_192_5, r_192_7, r_192_8, r_192_14, r_192_16, r_192_17, r_192_18, r_192_19, r_192_20, r_192_22, r_192_23, r_192_25, r_192_26, zrI, zrL, zrR, ne_eq, true_and, and_true, true_or, or_true, not_true_eq_false, not_false_eq_true, false_and, and_false, forall_const, true_implies, false_implies, implies_true, reduceCtorEq, Int.reduceEq, Int.reduceNe, Int.reduceLT, Int.reduceLE, Int.reduceNeg, Nat.reduceEqDiff, if_true, if_false, reduceIte, Int.reduceMul, Int.reduceAdd, Int.reduceSub]
      refine ⟨fun c => by omega, fun _ => ⟨fun c => c92 _ _ ?_, fun c => ⟨fun c2 => c92 _ _ ?_, fun c2 => ⟨fun c3 => c49 (by omega) (by omega) (fun e => by omega) _ _ _, fun c3 => t_mNum hT mT l0 l1 (by omega) (by omega) ?_⟩⟩⟩⟩
      · have : gB gp le v r = 0 := by unfold gB; rw [if_neg (by omega)]
        rw [this]; rfl
      · have : gB gp le v r = 0 := by unfold gB; rw [if_neg (by omega)]
        rw [this]; rfl
      · simp only [hT, zrI, zrL, zrR, Shp_wI, Shp_wJ, zR_wI, zR_wJ, zJ_wI, zI_wJ, zobj_wI, zobj_wJ, zarr_wI, zarr_wJ, zS_wI, zS_wJ, o_192, a_193, a_194, a_195, a_196, a_197, a_198, a_199, a_200, a_201, a_202, a_203, a_204, a_205, a_206, a_207, a_208, a_209, a_210, r_192_0, r_192_1, r_192_2, r_192_3, r_192_4, r_192_5, r_192_7, r_192_8, r_192_14, r_192_16, r_192_17, r_192_18, r_192_19, r_192_20, r_192_22, r_192_23, r_192_25, r_192_26, zrI, zrL, zrR, ne_eq, true_and, and_true, true_or, or_true, not_true_eq_false, not_false_eq_true, false_and, and_false, forall_const, true_implies, false_implies, implies_true, reduceCtorEq, Int.reduceEq, Int.reduceNe, Int.reduceLT, Int.reduceLE, Int.reduceNeg, Nat.reduceEqDiff, if_true, if_false, reduceIte, Int.reduceMul, Int.reduceAdd, Int.reduceSub]
        refine ⟨fun c4 => c49 (by omega) (by omega) (fun _ => by omega) _ _ _, fun c4 => t_mGap hT mT l0 l1 hk (by omega) (by omega) ?_⟩
        rw [hgap v]
        simp only [hT, zrI, zrL, zrR, Shp_wI, Shp_wJ, zR_wI, zR_wJ, zJ_wI, zI_wJ, zobj_wI, zobj_wJ, zarr_wI, zarr_wJ, zS_wI, zS_wJ, o_192, a_193, a_194, a_195, a_196, a_197, a_198, a_199, a_200, a_201, a_202, a_203, a_204, a_205, a_206, a_207, a_208, a_209, a_210, r_192_0, r_192_1, r_192_2, r_192_3, r_192_4, r_192_5, r_192_7, r_192_8, r_192_14, r_192_16, r_192_17, r_192_18, r_192_19, r_192_20, r_192_22, r_192_23, r_192_25, r_192_26, zrI, zrL, zrR, ne_eq, true_and, and_true, true_or, or_true, not_true_eq_false, not_false_eq_true, false_and, and_false, forall_const, true_implies, false_implies, implies_true, reduceCtorEq, Int.reduceEq, Int.reduceNe, Int.reduceLT, Int.reduceLE, Int.reduceNeg, Nat.reduceEqDiff, if_true, if_false, reduceIte, Int.reduceMul, Int.reduceAdd, Int.reduceSub]
        refine ⟨by omega, fun c5 => c92 _ _ ?_, fun c5 => by omega⟩
        unfold gB
        rw [if_pos (by omega), show r - v = 0 by omega, GB_n0]
        rfl
  have outer : ∀ (m r : Nat) (τ : ZM) (u3 u4 u5 u6 : PV), r + m = 401 → (∀ v r' : Nat, v ≤ 400 → r' < r → zJ τ 199 (401 * (v : Int) + (r' : Int)) = Int64.ofNat (gB gp le v r') ∧ zJ τ 200 (401 * (v : Int) + (r' : Int)) = if r' = 0 then 0 else Int64.ofNat (GB gp le v r')) → Fr (fun a => a = 199 ∨ a = 200) σ τ → WP m_Mod_makeFirsts 2 [zr 192, zi l, zi (r : Int), u3, u4, u5, u6] [] τ (0, 0) Q := by
    intro m
    induction m with
    | zero =>
      intro r τ u3 u4 u5 u6 hm hv f
      exact r_Mod_makeFirsts_2 ⟨fun _ => q τ (done τ (fun v r' h1 h2 => hv v r' h1 (by omega))) f, fun c => by omega⟩
    | succ m ih =>
      intro r τ u3 u4 u5 u6 hm hv f
      refine r_Mod_makeFirsts_2 ⟨fun c => by omega, fun _ => ?_⟩
      exact inner r (by omega) (fun τ' a1 a2 a3 a4 h1 h2 => by
        have := ih (r + 1) τ' a1 a2 a3 a4 (by omega) h1 h2
        rw [Int.natCast_succ] at this
        exact this) 401 0 τ _ _ _ (by omega) hv (fun v' h => by omega) f
  exact r_Mod_makeFirsts_0 (outer 401 0 σ _ _ _ _ (by omega) (fun v r' _ h => by omega) Fr.rf)
abbrev mtf (a : Nat) (j : Int) : Prop := a = 199 ∨ a = 200 ∨ (a = 192 ∧ 9 ≤ j ∧ j ≤ 13)
theorem t_mMake {Q : ZQ} {σ : ZM} {L : Int → LW} {l : Int} (hS : Shp σ) (mL : MLaw σ L) (mT : MTabI σ) (l0 : 0 ≤ l) (l1 : l ≤ 7) (hk : L l 0 ≤ 2) (q : ∀ σ', MTab σ' (L l) → MTabI σ' → Fz mtf σ σ' → Q zu σ') : WP m_Mod_make 0 [zr 192, zi l] [] σ (0, 0) Q := by
  have ok := (mL l l0 l1).1
  have hk0 : 0 ≤ L l 0 := by unfold lawOK canB at ok; omega
  refine r_Mod_make_0 ?_
  simp only [hS, zrI, zrL, zrR, Shp_wI, Shp_wJ, zR_wI, zR_wJ, zJ_wI, zI_wJ, zobj_wI, zobj_wJ, zarr_wI, zarr_wJ, zS_wI, zS_wJ, o_192, a_193, a_194, a_195, a_196, a_197, a_198, a_199, a_200, a_201, a_202, a_203, a_204, a_205, a_206, a_207, a_208, a_209, a_210, r_192_0, r_192_1, r_192_2, r_192_3, r_192_4, r_192_5, r_192_7, r_192_8, r_192_14, r_192_16, r_192_17, r_192_18, r_192_19, r_192_20, r_192_22, r_192_23, r_192_25, r_192_26, zrI, zrL, zrR, ne_eq, true_and, and_true, true_or, or_true, not_true_eq_false, not_false_eq_true, false_and, and_false, forall_const, true_implies, false_implies, implies_true, reduceCtorEq, Int.reduceEq, Int.reduceNe, Int.reduceLT, Int.reduceLE, Int.reduceNeg, Nat.reduceEqDiff, if_true, if_false, reduceIte, Int.reduceMul, Int.reduceAdd, Int.reduceSub]
  refine t_mIsTable hS mL mT l0 l1 (fun h => ?_) ?_
  · simp only [zrI, zrL, zrR, ne_eq, true_and, and_true, true_or, or_true, not_true_eq_false, not_false_eq_true, false_and, and_false, forall_const, true_implies, false_implies, implies_true, reduceCtorEq, Int.reduceEq, Int.reduceNe, Int.reduceLT, Int.reduceLE, Int.reduceNeg, Nat.reduceEqDiff, if_true, if_false, reduceIte, Int.reduceMul, Int.reduceAdd, Int.reduceSub]
    exact q σ h mT Fz.rf
  · simp only [hS, zrI, zrL, zrR, Shp_wI, Shp_wJ, zR_wI, zR_wJ, zJ_wI, zI_wJ, zobj_wI, zobj_wJ, zarr_wI, zarr_wJ, zS_wI, zS_wJ, o_192, a_193, a_194, a_195, a_196, a_197, a_198, a_199, a_200, a_201, a_202, a_203, a_204, a_205, a_206, a_207, a_208, a_209, a_210, r_192_0, r_192_1, r_192_2, r_192_3, r_192_4, r_192_5, r_192_7, r_192_8, r_192_14, r_192_16, r_192_17, r_192_18, r_192_19, r_192_20, r_192_22, r_192_23, r_192_25, r_192_26, zrI, zrL, zrR, ne_eq, true_and, and_true, true_or, or_true, not_true_eq_false, not_false_eq_true, false_and, and_false, forall_const, true_implies, false_implies, implies_true, reduceCtorEq, Int.reduceEq, Int.reduceNe, Int.reduceLT, Int.reduceLE, Int.reduceNeg, Nat.reduceEqDiff, if_true, if_false, reduceIte, Int.reduceMul, Int.reduceAdd, Int.reduceSub]
    refine t_mKind hS mL l0 l1 ?_
    simp only [hS, zrI, zrL, zrR, Shp_wI, Shp_wJ, zR_wI, zR_wJ, zJ_wI, zI_wJ, zobj_wI, zobj_wJ, zarr_wI, zarr_wJ, zS_wI, zS_wJ, o_192, a_193, a_194, a_195, a_196, a_197, a_198, a_199, a_200, a_201, a_202, a_203, a_204, a_205, a_206, a_207, a_208, a_209, a_210, r_192_0, r_192_1, r_192_2, r_192_3, r_192_4, r_192_5, r_192_7, r_192_8, r_192_14, r_192_16, r_192_17, r_192_18, r_192_19, r_192_20, r_192_22, r_192_23, r_192_25, r_192_26, zrI, zrL, zrR, ne_eq, true_and, and_true, true_or, or_true, not_true_eq_false, not_false_eq_true, false_and, and_false, forall_const, true_implies, false_implies, implies_true, reduceCtorEq, Int.reduceEq, Int.reduceNe, Int.reduceLT, Int.reduceLE, Int.reduceNeg, Nat.reduceEqDiff, if_true, if_false, reduceIte, Int.reduceMul, Int.reduceAdd, Int.reduceSub]
    have fw : ∀ {τ : ZM} {j x : Int}, 9 ≤ j → j ≤ 13 → Fz (fun a j => a = 192 ∧ 9 ≤ j ∧ j ≤ 13) τ (wI τ 192 j x) := fun h1 h2 => Fz.wI ⟨rfl, h1, h2⟩
    have f9 := fw (τ := σ) (j := 9) (x := L l 0) (by omega) (by omega)
    refine t_mNum (show Shp (wI σ 192 9 (L l 0)) from hS) (f9.mlaw (fun j => by omega) mL) l0 l1 (by omega) (by omega) ?_
    simp only [hS, zrI, zrL, zrR, Shp_wI, Shp_wJ, zR_wI, zR_wJ, zJ_wI, zI_wJ, zobj_wI, zobj_wJ, zarr_wI, zarr_wJ, zS_wI, zS_wJ, o_192, a_193, a_194, a_195, a_196, a_197, a_198, a_199, a_200, a_201, a_202, a_203, a_204, a_205, a_206, a_207, a_208, a_209, a_210, r_192_0, r_192_1, r_192_2, r_192_3, r_192_4, r_192_5, r_192_7, r_192_8, r_192_14, r_192_16, r_192_17, r_192_18, r_192_19, r_192_20, r_192_22, r_192_23, r_192_25, r_192_26, zrI, zrL, zrR, ne_eq, true_and, and_true, true_or, or_true, not_true_eq_false, not_false_eq_true, false_and, and_false, forall_const, true_implies, false_implies, implies_true, reduceCtorEq, Int.reduceEq, Int.reduceNe, Int.reduceLT, Int.reduceLE, Int.reduceNeg, Nat.reduceEqDiff, if_true, if_false, reduceIte, Int.reduceMul, Int.reduceAdd, Int.reduceSub]
    have f10 := f9.tr (fw (j := 10) (x := L l 1) (by omega) (by omega))
    refine t_mNum (show Shp (wI (wI σ 192 9 (L l 0)) 192 10 (L l 1)) from hS) (f10.mlaw (fun j => by omega) mL) l0 l1 (by omega) (by omega) ?_
    simp only [hS, zrI, zrL, zrR, Shp_wI, Shp_wJ, zR_wI, zR_wJ, zJ_wI, zI_wJ, zobj_wI, zobj_wJ, zarr_wI, zarr_wJ, zS_wI, zS_wJ, o_192, a_193, a_194, a_195, a_196, a_197, a_198, a_199, a_200, a_201, a_202, a_203, a_204, a_205, a_206, a_207, a_208, a_209, a_210, r_192_0, r_192_1, r_192_2, r_192_3, r_192_4, r_192_5, r_192_7, r_192_8, r_192_14, r_192_16, r_192_17, r_192_18, r_192_19, r_192_20, r_192_22, r_192_23, r_192_25, r_192_26, zrI, zrL, zrR, ne_eq, true_and, and_true, true_or, or_true, not_true_eq_false, not_false_eq_true, false_and, and_false, forall_const, true_implies, false_implies, implies_true, reduceCtorEq, Int.reduceEq, Int.reduceNe, Int.reduceLT, Int.reduceLE, Int.reduceNeg, Nat.reduceEqDiff, if_true, if_false, reduceIte, Int.reduceMul, Int.reduceAdd, Int.reduceSub]
    have f11 := f10.tr (fw (j := 11) (x := L l 2) (by omega) (by omega))
    refine t_mNum (show Shp (wI (wI (wI σ 192 9 (L l 0)) 192 10 (L l 1)) 192 11 (L l 2)) from hS) (f11.mlaw (fun j => by omega) mL) l0 l1 (by omega) (by omega) ?_
    simp only [hS, zrI, zrL, zrR, Shp_wI, Shp_wJ, zR_wI, zR_wJ, zJ_wI, zI_wJ, zobj_wI, zobj_wJ, zarr_wI, zarr_wJ, zS_wI, zS_wJ, o_192, a_193, a_194, a_195, a_196, a_197, a_198, a_199, a_200, a_201, a_202, a_203, a_204, a_205, a_206, a_207, a_208, a_209, a_210, r_192_0, r_192_1, r_192_2, r_192_3, r_192_4, r_192_5, r_192_7, r_192_8, r_192_14, r_192_16, r_192_17, r_192_18, r_192_19, r_192_20, r_192_22, r_192_23, r_192_25, r_192_26, zrI, zrL, zrR, ne_eq, true_and, and_true, true_or, or_true, not_true_eq_false, not_false_eq_true, false_and, and_false, forall_const, true_implies, false_implies, implies_true, reduceCtorEq, Int.reduceEq, Int.reduceNe, Int.reduceLT, Int.reduceLE, Int.reduceNeg, Nat.reduceEqDiff, if_true, if_false, reduceIte, Int.reduceMul, Int.reduceAdd, Int.reduceSub]
    have f12 := f11.tr (fw (j := 12) (x := L l 3) (by omega) (by omega))
    refine t_mNum (show Shp (wI (wI (wI (wI σ 192 9 (L l 0)) 192 10 (L l 1)) 192 11 (L l 2)) 192 12 (L l 3)) from hS) (f12.mlaw (fun j => by omega) mL) l0 l1 (by omega) (by omega) ?_
    have f13 := f12.tr (fw (j := 13) (x := L l 4) (by omega) (by omega))
    simp only [hS, zI_wI, zrI, zrL, zrR, Shp_wI, Shp_wJ, zR_wI, zR_wJ, zJ_wI, zI_wJ, zobj_wI, zobj_wJ, zarr_wI, zarr_wJ, zS_wI, zS_wJ, o_192, a_193, a_194, a_195, a_196, a_197, a_198, a_199, a_200, a_201, a_202, a_203, a_204, a_205, a_206, a_207, a_208, a_209, a_210, r_192_0, r_192_1, r_192_2, r_192_3, r_192_4, r_192_5, r_192_7, r_192_8, r_192_14, r_192_16, r_192_17, r_192_18, r_192_19, r_192_20, r_192_22, r_192_23, r_192_25, r_192_26, zrI, zrL, zrR, ne_eq, true_and, and_true, true_or, or_true, not_true_eq_false, not_false_eq_true, false_and, and_false, forall_const, true_implies, false_implies, implies_true, reduceCtorEq, Int.reduceEq, Int.reduceNe, Int.reduceLT, Int.reduceLE, Int.reduceNeg, Nat.reduceEqDiff, if_true, if_false, reduceIte, Int.reduceMul, Int.reduceAdd, Int.reduceSub]
    have fin : ∀ τ, MTab τ (L l) → Fr (fun a => a = 199 ∨ a = 200) (wI (wI (wI (wI (wI σ 192 9 (L l 0)) 192 10 (L l 1)) 192 11 (L l 2)) 192 12 (L l 3)) 192 13 (L l 4)) τ → Q zu τ := fun τ w1 w2 => by
      have g := (f13.mono (P' := mtf) (fun a j w => by omega)).tr (w2.z (fun a j w => by omega))
      refine q τ w1 (Or.inr ⟨L l, ok, hk, ?_, ?_, ?_, ?_, ?_, w1⟩) g
      all_goals (rw [(w2.2.2.2 192 (by omega)).1]; simp only [zI_wI, zrI, zrL, zrR, ne_eq, true_and, and_true, true_or, or_true, not_true_eq_false, not_false_eq_true, false_and, and_false, forall_const, true_implies, false_implies, implies_true, reduceCtorEq, Int.reduceEq, Int.reduceNe, Int.reduceLT, Int.reduceLE, Int.reduceNeg, Nat.reduceEqDiff, if_true, if_false, reduceIte, Int.reduceMul, Int.reduceAdd, Int.reduceSub])
    refine ⟨fun e => t_mBelow (show Shp (wI (wI (wI (wI (wI σ 192 9 (L l 0)) 192 10 (L l 1)) 192 11 (L l 2)) 192 12 (L l 3)) 192 13 (L l 4)) from hS) (f13.mlaw (fun j => by omega) mL) l0 l1 (by omega) (fun τ w1 w2 => fin τ w1 (w2.mono (fun a w => Or.inl w))), fun e => t_mFirsts (show Shp (wI (wI (wI (wI (wI σ 192 9 (L l 0)) 192 10 (L l 1)) 192 11 (L l 2)) 192 12 (L l 3)) 192 13 (L l 4)) from hS) (f13.mlaw (fun j => by omega) mL) l0 l1 e fin⟩
