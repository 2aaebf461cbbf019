/-! lead 1, reference: countParts, isBelow, fromOften, its loops -/
def mTl (Q : ZQ) (d : Int) (σ : ZM) : Prop := WP m_Mod_set 0 [zr 192, zi d] [] σ (0, 0) (fun _ σ5 => (zobj σ5 192 11 ∧ (zarr σ5 (zR σ5 192 2) 100 d ∧ Q (zi (zI σ5 (zR σ5 192 2) d)) σ5)))
theorem t_mTl {Q : ZQ} {σ : ZM} {M S : Int → List Int} {N : List (Int × List Int)} {d : Int} {l : List Int} (hS : Shp σ) (hn : MN σ N) (m : MS σ M) (hM : ∀ s, 0 ≤ s → s ≤ 7 → M s = S s) (h8 : M 8 = l) (d0 : 0 ≤ d) (d1 : d ≤ 7) (q : ∀ σ', MI σ' (upS S d l) (actN S N d) → Fz maf σ σ' → Q (zi (l.length : Int)) σ') : mTl Q d σ := by
  unfold mTl
  refine t_mSet (S := S) hS hn m hM h8 d0 d1 (fun ξ j1 j2 => ?_)
  have q' := q ξ j1 j2
  obtain ⟨hX, hNX, M2, m2, hM2⟩ := j1
  have e2 := hM2 d d0 d1
  rw [upS_same] at e2
  have g1 := (m2 d d0 (by omega)).1
  rw [e2] at g1
  simp only [hX, g1, zrI, zrL, zrR, Shp_wI, Shp_wJ, zR_wI, zR_wJ, zJ_wI, zI_wJ, zobj_wI, zobj_wJ, zarr_wI, zarr_wJ, zS_wI, zS_wJ, o_192, a_193, a_194, a_195, a_196, a_197, a_198, a_199, a_200, a_201, a_202, a_203, a_204, a_205, a_206, a_207, a_208, a_209, a_210, r_192_0, r_192_1, r_192_2, r_192_3, r_192_4, r_192_5, r_192_7, r_192_8, r_192_14, r_192_16, r_192_17, r_192_18, r_192_19, r_192_20, r_192_22, r_192_23, r_192_25, r_192_26, zrI, zrL, zrR, ne_eq, true_and, and_true, true_or, or_true, not_true_eq_false, not_false_eq_true, false_and, and_false, forall_const, true_implies, false_implies, implies_true, reduceCtorEq, Int.reduceEq, Int.reduceNe, Int.reduceLT, Int.reduceLE, Int.reduceNeg, Nat.reduceEqDiff, if_true, if_false, reduceIte, Int.reduceMul, Int.reduceAdd, Int.reduceSub]
  exact ⟨by omega, q'⟩
theorem t_mCountParts {Q : ZQ} {σ : ZM} {M : Int → List Int} {s : Int} (hS : Shp σ) (m : MS σ M) (s0 : 0 ≤ s) (s1 : s ≤ 7) (hp : Pt (M s)) (q : ∀ σ', Oc σ' 203 (cnO (M s) (M s).length) → Fr (fun a => a = 203) σ σ' → Q zu σ') : WP m_Mod_countParts 0 [zr 192, zi s, zu] [] σ (0, 0) Q := by
  have hlen := hp.len
  have h4 := hp.2.1
  have k24 : ∀ (e k : Nat) (τ : ZM), k + e = (M s).length → Oc τ 203 (cnO (M s) k) → Fr (fun a => a = 203) σ τ → WP m_Mod_countParts 24 [zr 192, zi s, zi (k : Int)] [] τ (0, 0) Q := by
    intro e
    induction e with
    | zero =>
      intro k τ hk ho f1
      have hT := f1.shp hS
      have mT := f1.ms (by omega) (by omega) m
      have g1 := (mT s s0 (by omega)).1
      rw [show k = (M s).length by omega] at ho
      refine r_Mod_countParts_24 ?_
      simp only [hT, g1, zrI, zrL, zrR, Shp_wI, Shp_wJ, zR_wI, zR_wJ, zJ_wI, zI_wJ, zobj_wI, zobj_wJ, zarr_wI, zarr_wJ, zS_wI, zS_wJ, o_192, a_193, a_194, a_195, a_196, a_197, a_198, a_199, a_200, a_201, a_202, a_203, a_204, a_205, a_206, a_207, a_208, a_209, a_210, r_192_0, r_192_1, r_192_2, r_192_3, r_192_4, r_192_5, r_192_7, r_192_8, r_192_14, r_192_16, r_192_17, r_192_18, r_192_19, r_192_20, r_192_22, r_192_23, r_192_25, r_192_26, zrI, zrL, zrR, ne_eq, true_and, and_true, true_or, or_true, not_true_eq_false, not_false_eq_true, false_and, and_false, forall_const, true_implies, false_implies, implies_true, reduceCtorEq, Int.reduceEq, Int.reduceNe, Int.reduceLT, Int.reduceLE, Int.reduceNeg, Nat.reduceEqDiff, if_true, if_false, reduceIte, Int.reduceMul, Int.reduceAdd, Int.reduceSub]
      exact ⟨by omega, fun _ => q τ ho f1, fun c => by omega⟩
    | succ e ih =>
      intro k τ hk ho f1
      have hT := f1.shp hS
      have mT := f1.ms (by omega) (by omega) m
      have g1 := (mT s s0 (by omega)).1
      have hr := hp.rng (k : Int)
      have v1 := ho (ga (M s) (k : Int)) (by omega) (by omega)
      have hcn := cnO_ge (l := M s) k (ga (M s) (k : Int))
      refine r_Mod_countParts_24 ?_
      simp only [hT, g1, zrI, zrL, zrR, Shp_wI, Shp_wJ, zR_wI, zR_wJ, zJ_wI, zI_wJ, zobj_wI, zobj_wJ, zarr_wI, zarr_wJ, zS_wI, zS_wJ, o_192, a_193, a_194, a_195, a_196, a_197, a_198, a_199, a_200, a_201, a_202, a_203, a_204, a_205, a_206, a_207, a_208, a_209, a_210, r_192_0, r_192_1, r_192_2, r_192_3, r_192_4, r_192_5, r_192_7, r_192_8, r_192_14, r_192_16, r_192_17, r_192_18, r_192_19, r_192_20, r_192_22, r_192_23, r_192_25, r_192_26, zrI, zrL, zrR, ne_eq, true_and, and_true, true_or, or_true, not_true_eq_false, not_false_eq_true, false_and, and_false, forall_const, true_implies, false_implies, implies_true, reduceCtorEq, Int.reduceEq, Int.reduceNe, Int.reduceLT, Int.reduceLE, Int.reduceNeg, Nat.reduceEqDiff, if_true, if_false, reduceIte, Int.reduceMul, Int.reduceAdd, Int.reduceSub]
      refine ⟨by omega, fun c => by omega, fun _ => t_mAt hT mT s0 (by omega) (by omega) ?_⟩
      simp only [hT, v1, zrI, zrL, zrR, Shp_wI, Shp_wJ, zR_wI, zR_wJ, zJ_wI, zI_wJ, zobj_wI, zobj_wJ, zarr_wI, zarr_wJ, zS_wI, zS_wJ, o_192, a_193, a_194, a_195, a_196, a_197, a_198, a_199, a_200, a_201, a_202, a_203, a_204, a_205, a_206, a_207, a_208, a_209, a_210, r_192_0, r_192_1, r_192_2, r_192_3, r_192_4, r_192_5, r_192_7, r_192_8, r_192_14, r_192_16, r_192_17, r_192_18, r_192_19, r_192_20, r_192_22, r_192_23, r_192_25, r_192_26, zrI, zrL, zrR, ne_eq, true_and, and_true, true_or, or_true, not_true_eq_false, not_false_eq_true, false_and, and_false, forall_const, true_implies, false_implies, implies_true, reduceCtorEq, Int.reduceEq, Int.reduceNe, Int.reduceLT, Int.reduceLE, Int.reduceNeg, Nat.reduceEqDiff, if_true, if_false, reduceIte, Int.reduceMul, Int.reduceAdd, Int.reduceSub]
      have := ih (k + 1) _ (by omega) (by rw [cnO_succ]; exact ho.w _ _) (f1.tr (Fr.wI rfl))
      rw [Int.natCast_succ] at this
      exact ⟨by omega, by omega, by omega, by omega, this⟩
  have k2 : ∀ (e k : Nat) (τ : ZM), k + e = 401 → (∀ v : Int, 0 ≤ v → v < (k : Int) → zI τ 203 v = 0) → Fr (fun a => a = 203) σ τ → WP m_Mod_countParts 2 [zr 192, zi s, zi (k : Int)] [] τ (0, 0) Q := by
    intro e
    induction e with
    | zero =>
      intro k τ hk ho f1
      exact r_Mod_countParts_2 ⟨fun _ => k24 (M s).length 0 τ (by omega) (fun v v0 v1 => by rw [ho v v0 (by omega)]; rfl) f1, fun c => by omega⟩
    | succ e ih =>
      intro k τ hk ho f1
      have hT := f1.shp hS
      refine r_Mod_countParts_2 ?_
      simp only [hT, zrI, zrL, zrR, Shp_wI, Shp_wJ, zR_wI, zR_wJ, zJ_wI, zI_wJ, zobj_wI, zobj_wJ, zarr_wI, zarr_wJ, zS_wI, zS_wJ, o_192, a_193, a_194, a_195, a_196, a_197, a_198, a_199, a_200, a_201, a_202, a_203, a_204, a_205, a_206, a_207, a_208, a_209, a_210, r_192_0, r_192_1, r_192_2, r_192_3, r_192_4, r_192_5, r_192_7, r_192_8, r_192_14, r_192_16, r_192_17, r_192_18, r_192_19, r_192_20, r_192_22, r_192_23, r_192_25, r_192_26, zrI, zrL, zrR, ne_eq, true_and, and_true, true_or, or_true, not_true_eq_false, not_false_eq_true, false_and, and_false, forall_const, true_implies, false_implies, implies_true, reduceCtorEq, Int.reduceEq, Int.reduceNe, Int.reduceLT, Int.reduceLE, Int.reduceNeg, Nat.reduceEqDiff, if_true, if_false, reduceIte, Int.reduceMul, Int.reduceAdd, Int.reduceSub]
      have := ih (k + 1) (wI τ 203 (k : Int) 0) (by omega) (fun v v0 v1 => by
        rw [zI_wI]
        by_cases c : v = (k : Int)
        · rw [if_pos ⟨rfl, c⟩]
        · rw [if_neg (by omega)]
          exact ho v v0 (by omega)) (f1.tr (Fr.wI rfl))
      rw [Int.natCast_succ] at this
      exact ⟨fun c => by omega, fun _ => ⟨by omega, by omega, this⟩⟩
  exact r_Mod_countParts_0 (k2 401 0 σ (by omega) (fun v v0 v1 => by omega) Fr.rf)
theorem t_mIsBelow {Q : ZQ} {σ : ZM} {M : Int → List Int} {s x : Int} (hS : Shp σ) (m : MS σ M) (s0 : 0 ≤ s) (s1 : s ≤ 7) (hp : Pt (M s)) (x0 : 2 ≤ x) (q1 : ¬ tmL (M s) x → ∀ σ', Oc σ' 203 (cnO (M s) (M s).length) → Fr (fun a => a = 203) σ σ' → Q (zi 1) σ') (q0 : tmL (M s) x → ∀ σ', Fr (fun a => a = 203) σ σ' → Q (zi 0) σ') : WP m_Mod_isBelow 0 [zr 192, zi s, zi x, zu] [] σ (0, 0) Q := by
  refine r_Mod_isBelow_0 ?_
  simp only [hS, zrI, zrL, zrR, Shp_wI, Shp_wJ, zR_wI, zR_wJ, zJ_wI, zI_wJ, zobj_wI, zobj_wJ, zarr_wI, zarr_wJ, zS_wI, zS_wJ, o_192, a_193, a_194, a_195, a_196, a_197, a_198, a_199, a_200, a_201, a_202, a_203, a_204, a_205, a_206, a_207, a_208, a_209, a_210, r_192_0, r_192_1, r_192_2, r_192_3, r_192_4, r_192_5, r_192_7, r_192_8, r_192_14, r_192_16, r_192_17, r_192_18, r_192_19, r_192_20, r_192_22, r_192_23, r_192_25, r_192_26, zrI, zrL, zrR, ne_eq, true_and, and_true, true_or, or_true, not_true_eq_false, not_false_eq_true, false_and, and_false, forall_const, true_implies, false_implies, implies_true, reduceCtorEq, Int.reduceEq, Int.reduceNe, Int.reduceLT, Int.reduceLE, Int.reduceNeg, Nat.reduceEqDiff, if_true, if_false, reduceIte, Int.reduceMul, Int.reduceAdd, Int.reduceSub]
  refine t_mCountParts hS m s0 s1 hp (fun τ ho f1 => ?_)
  have hT := f1.shp hS
  have k7 : ∀ (e k : Nat) (u : PV), k + e = 400 → (∀ v : Int, 1 ≤ v → v ≤ (k : Int) → cnO (M s) (M s).length v < x) → WP m_Mod_isBelow 7 [zr 192, u, zi x, zi ((k : Int) + 1)] [] τ (0, 0) Q := by
    intro e
    induction e with
    | zero =>
      intro k u hk hn
      refine r_Mod_isBelow_7 ⟨fun _ => ⟨Or.inr rfl, q1 (fun w => ?_) τ ho f1⟩, fun c => by omega⟩
      obtain ⟨v, v0, v1, w⟩ := (below_iff hp x0).2 w
      have := hn v v0 (by omega)
      omega
    | succ e ih =>
      intro k u hk hn
      have v1 := ho ((k : Int) + 1) (by omega) (by omega)
      refine r_Mod_isBelow_7 ?_
      simp only [hT, v1, zrI, zrL, zrR, Shp_wI, Shp_wJ, zR_wI, zR_wJ, zJ_wI, zI_wJ, zobj_wI, zobj_wJ, zarr_wI, zarr_wJ, zS_wI, zS_wJ, o_192, a_193, a_194, a_195, a_196, a_197, a_198, a_199, a_200, a_201, a_202, a_203, a_204, a_205, a_206, a_207, a_208, a_209, a_210, r_192_0, r_192_1, r_192_2, r_192_3, r_192_4, r_192_5, r_192_7, r_192_8, r_192_14, r_192_16, r_192_17, r_192_18, r_192_19, r_192_20, r_192_22, r_192_23, r_192_25, r_192_26, zrI, zrL, zrR, ne_eq, true_and, and_true, true_or, or_true, not_true_eq_false, not_false_eq_true, false_and, and_false, forall_const, true_implies, false_implies, implies_true, reduceCtorEq, Int.reduceEq, Int.reduceNe, Int.reduceLT, Int.reduceLE, Int.reduceNeg, Nat.reduceEqDiff, if_true, if_false, reduceIte, Int.reduceMul, Int.reduceAdd, Int.reduceSub]
      refine ⟨fun c => by omega, fun _ => ⟨by omega, fun c => ⟨by omega, ?_⟩, fun c => q0 ((below_iff hp x0).1 ⟨(k : Int) + 1, by omega, by omega, c⟩) τ f1⟩⟩
      have := ih (k + 1) u (by omega) (fun v v0 v1 => by
        by_cases e : v = (k : Int) + 1
        · rw [e]; exact c
        · exact hn v v0 (by omega))
      rw [Int.natCast_succ] at this
      exact this
  exact k7 400 0 _ (by omega) (fun v v0 v1 => by omega)
theorem t_mFromOften {Q : ZQ} {σ : ZM} {M : Int → List Int} {f : Int → Int} (hS : Shp σ) (m : MS σ M) (ho : Oc σ 203 f) (hf : OcP f) (q : ∀ σ', MS σ' (upS M 8 (oL f 400)) → Fr mfr σ σ' → Q zu σ') : WP m_Mod_fromOften 0 [zr 192, zu, zu] [] σ (0, 0) Q := by
  have k10 : ∀ (e k : Nat) (u2 : PV) (τ : ZM), k + e = 400 → MS τ (upS M 8 (oL f k)) → Fr mfr σ τ → WP m_Mod_fromOften 10 [zr 192, zi (400 - (k : Int)), u2] [] τ (0, 0) Q := by
    intro e
    induction e with
    | zero =>
      intro k u2 τ hk mT f1
      rw [show k = 400 by omega] at mT
      exact r_Mod_fromOften_10 ⟨fun _ => q τ mT f1, fun c => by omega⟩
    | succ e ih =>
      intro k u2 τ hk mT f1
      refine r_Mod_fromOften_10 ⟨fun c => by omega, fun _ => ?_⟩
      have hFv := hf.le (v := 400 - (k : Int)) (by omega) (by omega)
      have hb := oL_bd hf (k + 1) (by omega)
      have eo : oL f (k + 1) = oL f k ++ List.replicate (f (400 - (k : Int))).toNat (400 - (k : Int)) := rfl
      rw [eo, List.sum_append, List.sum_replicate_int] at hb
      have hsn := (oL_Pt' hf k (by omega)).1
      have hs0 := sum_pos _ hsn.1
      have k16 : ∀ (g i : Nat) (υ : ZM), (i : Int) + g = f (400 - (k : Int)) → MS υ (upS M 8 (oL f k ++ List.replicate i (400 - (k : Int)))) → Fr mfr σ υ → WP m_Mod_fromOften 16 [zr 192, zi (400 - (k : Int)), zi (i : Int)] [] υ (0, 0) Q := by
        intro g
        induction g with
        | zero =>
          intro i υ hi mT f1
          have hT := f1.shp hS
          have v1 := (f1.oc (by omega) ho) (400 - (k : Int)) (by omega) (by omega)
          refine r_Mod_fromOften_16 ?_
          simp only [hT, v1, zrI, zrL, zrR, Shp_wI, Shp_wJ, zR_wI, zR_wJ, zJ_wI, zI_wJ, zobj_wI, zobj_wJ, zarr_wI, zarr_wJ, zS_wI, zS_wJ, o_192, a_193, a_194, a_195, a_196, a_197, a_198, a_199, a_200, a_201, a_202, a_203, a_204, a_205, a_206, a_207, a_208, a_209, a_210, r_192_0, r_192_1, r_192_2, r_192_3, r_192_4, r_192_5, r_192_7, r_192_8, r_192_14, r_192_16, r_192_17, r_192_18, r_192_19, r_192_20, r_192_22, r_192_23, r_192_25, r_192_26, zrI, zrL, zrR, ne_eq, true_and, and_true, true_or, or_true, not_true_eq_false, not_false_eq_true, false_and, and_false, forall_const, true_implies, false_implies, implies_true, reduceCtorEq, Int.reduceEq, Int.reduceNe, Int.reduceLT, Int.reduceLE, Int.reduceNeg, Nat.reduceEqDiff, if_true, if_false, reduceIte, Int.reduceMul, Int.reduceAdd, Int.reduceSub]
          have := ih (k + 1) (zi (i : Int)) υ (by omega) (by rw [eo, show (f (400 - (k : Int))).toNat = i by omega]; exact mT) f1
          rw [show 400 - ((k + 1 : Nat) : Int) = 400 - (k : Int) + -1 by omega] at this
          refine ⟨by omega, fun _ => ⟨by omega, this⟩, fun c => by omega⟩
        | succ g ihg =>
          intro i υ hi mT f1
          have hT := f1.shp hS
          have v1 := (f1.oc (by omega) ho) (400 - (k : Int)) (by omega) (by omega)
          refine r_Mod_fromOften_16 ?_
          simp only [hT, v1, zrI, zrL, zrR, Shp_wI, Shp_wJ, zR_wI, zR_wJ, zJ_wI, zI_wJ, zobj_wI, zobj_wJ, zarr_wI, zarr_wJ, zS_wI, zS_wJ, o_192, a_193, a_194, a_195, a_196, a_197, a_198, a_199, a_200, a_201, a_202, a_203, a_204, a_205, a_206, a_207, a_208, a_209, a_210, r_192_0, r_192_1, r_192_2, r_192_3, r_192_4, r_192_5, r_192_7, r_192_8, r_192_14, r_192_16, r_192_17, r_192_18, r_192_19, r_192_20, r_192_22, r_192_23, r_192_25, r_192_26, zrI, zrL, zrR, ne_eq, true_and, and_true, true_or, or_true, not_true_eq_false, not_false_eq_true, false_and, and_false, forall_const, true_implies, false_implies, implies_true, reduceCtorEq, Int.reduceEq, Int.reduceNe, Int.reduceLT, Int.reduceLE, Int.reduceNeg, Nat.reduceEqDiff, if_true, if_false, reduceIte, Int.reduceMul, Int.reduceAdd, Int.reduceSub]
          have hlt : ((i : Int) + 1) * (400 - (k : Int)) ≤ (((f (400 - (k : Int))).toNat : Nat) : Int) * (400 - (k : Int)) := Int.mul_le_mul_of_nonneg_right (by omega) (by omega)
          have hie : ((i : Int) + 1) * 1 ≤ ((i : Int) + 1) * (400 - (k : Int)) := Int.mul_le_mul_of_nonneg_left (by omega) (by omega)
          refine ⟨by omega, fun c => by omega, fun _ => t_mPush' hT mT (by omega) (by omega) (by rw [List.length_append, List.length_replicate]; omega) (fun ξ j1 j2 => ⟨by omega, ?_⟩)⟩
          have := ihg (i + 1) ξ (by omega) (by rw [show List.replicate (i + 1) (400 - (k : Int)) = List.replicate i (400 - (k : Int)) ++ [400 - (k : Int)] from List.replicate_succ', ← List.append_assoc]; exact j1) (f1.tr j2)
          rw [Int.natCast_succ] at this
          exact this
      exact k16 (f (400 - (k : Int))).toNat 0 τ (by omega) (by rw [List.replicate_zero, List.append_nil]; exact mT) f1
  refine r_Mod_fromOften_0 ?_
  simp only [hS, zrI, zrL, zrR, Shp_wI, Shp_wJ, zR_wI, zR_wJ, zJ_wI, zI_wJ, zobj_wI, zobj_wJ, zarr_wI, zarr_wJ, zS_wI, zS_wJ, o_192, a_193, a_194, a_195, a_196, a_197, a_198, a_199, a_200, a_201, a_202, a_203, a_204, a_205, a_206, a_207, a_208, a_209, a_210, r_192_0, r_192_1, r_192_2, r_192_3, r_192_4, r_192_5, r_192_7, r_192_8, r_192_14, r_192_16, r_192_17, r_192_18, r_192_19, r_192_20, r_192_22, r_192_23, r_192_25, r_192_26, zrI, zrL, zrR, ne_eq, true_and, and_true, true_or, or_true, not_true_eq_false, not_false_eq_true, false_and, and_false, forall_const, true_implies, false_implies, implies_true, reduceCtorEq, Int.reduceEq, Int.reduceNe, Int.reduceLT, Int.reduceLE, Int.reduceNeg, Nat.reduceEqDiff, if_true, if_false, reduceIte, Int.reduceMul, Int.reduceAdd, Int.reduceSub]
  exact t_mEmpty hS m (by omega) (by omega) (fun τ w1 w2 => k10 400 0 _ τ (by omega) w1 w2)
abbrev m3f (a : Nat) : Prop := a = 203 ∨ mfr a
theorem t_mLead_77 {Q : ZQ} {σ : ZM} {M : Int → List Int} {f : Int → Int} {x d : Int} {u1 u3 : PV} (hS : Shp σ) (m : MS σ M) (ho : Oc σ 203 f) (hf : OcP f) (x0 : 2 ≤ x) (x1 : x ≤ 12) (q : ∀ σ', MS σ' (upS M 8 (oL (cutF x f 400) 400)) → Fr m3f σ σ' → mTl Q d σ') : WP m_Mod_lead 77 [zr 192, u1, zi x, u3, zi d, zi 400] [] σ (0, 0) Q := by
  have k4 : ∀ (g k : Nat) (τ : ZM), k + g = 400 → Oc τ 203 (cutF x f k) → Fr (fun a => a = 203) σ τ → WP m_Mod_lead 77 [zr 192, u1, zi x, u3, zi d, zi (400 - (k : Int))] [] τ (0, 0) Q := by
    intro g
    induction g with
    | zero =>
      intro k τ hk hT f1
      have hTs := f1.shp hS
      have mT := f1.ms (by omega) (by omega) m
      rw [show k = 400 by omega] at hT
      refine r_Mod_lead_77 ?_
      simp only [hTs, zrI, zrL, zrR, Shp_wI, Shp_wJ, zR_wI, zR_wJ, zJ_wI, zI_wJ, zobj_wI, zobj_wJ, zarr_wI, zarr_wJ, zS_wI, zS_wJ, o_192, a_193, a_194, a_195, a_196, a_197, a_198, a_199, a_200, a_201, a_202, a_203, a_204, a_205, a_206, a_207, a_208, a_209, a_210, r_192_0, r_192_1, r_192_2, r_192_3, r_192_4, r_192_5, r_192_7, r_192_8, r_192_14, r_192_16, r_192_17, r_192_18, r_192_19, r_192_20, r_192_22, r_192_23, r_192_25, r_192_26, zrI, zrL, zrR, ne_eq, true_and, and_true, true_or, or_true, not_true_eq_false, not_false_eq_true, false_and, and_false, forall_const, true_implies, false_implies, implies_true, reduceCtorEq, Int.reduceEq, Int.reduceNe, Int.reduceLT, Int.reduceLE, Int.reduceNeg, Nat.reduceEqDiff, if_true, if_false, reduceIte, Int.reduceMul, Int.reduceAdd, Int.reduceSub]
      refine ⟨fun _ => t_mFromOften hTs mT hT (cutF_OcP hf x0 400 (Nat.le_refl _)) (fun υ j1 j2 => ?_), fun c => by omega⟩
      have hU := j2.shp hTs
      have := q υ j1 ((f1.mono (fun a w => Or.inl w)).tr (j2.mono (fun a w => Or.inr w)))
      unfold mTl at this
      simp only [hU, zrI, zrL, zrR, Shp_wI, Shp_wJ, zR_wI, zR_wJ, zJ_wI, zI_wJ, zobj_wI, zobj_wJ, zarr_wI, zarr_wJ, zS_wI, zS_wJ, o_192, a_193, a_194, a_195, a_196, a_197, a_198, a_199, a_200, a_201, a_202, a_203, a_204, a_205, a_206, a_207, a_208, a_209, a_210, r_192_0, r_192_1, r_192_2, r_192_3, r_192_4, r_192_5, r_192_7, r_192_8, r_192_14, r_192_16, r_192_17, r_192_18, r_192_19, r_192_20, r_192_22, r_192_23, r_192_25, r_192_26, zrI, zrL, zrR, ne_eq, true_and, and_true, true_or, or_true, not_true_eq_false, not_false_eq_true, false_and, and_false, forall_const, true_implies, false_implies, implies_true, reduceCtorEq, Int.reduceEq, Int.reduceNe, Int.reduceLT, Int.reduceLE, Int.reduceNeg, Nat.reduceEqDiff, if_true, if_false, reduceIte, Int.reduceMul, Int.reduceAdd, Int.reduceSub]
      exact this
    | succ g ih =>
      intro k τ hk hT f1
      have hTs := f1.shp hS
      have hF := cutF_OcP hf x0 k (by omega)
      have e1 : Int.tmod (400 - (k : Int)) x = (400 - (k : Int)) % x := Int.tmod_eq_emod_of_nonneg (by omega)
      have e2 : Int.tdiv (400 - (k : Int)) x = (400 - (k : Int)) / x := Int.tdiv_eq_ediv_of_nonneg (by omega)
      have hd := div_lt (v := 400 - (k : Int)) (x := x) (by omega) x0
      have v1 := hT (400 - (k : Int)) (by omega) (by omega)
      have v2 := hT ((400 - (k : Int)) / x) (by omega) (by omega)
      have hFv := hF.le (v := 400 - (k : Int)) (by omega) (by omega)
      have hm := mul_bd12 (x := x) (by omega) x1 hFv.1 hFv.2
      refine r_Mod_lead_77 ?_
      simp only [hTs, e1, e2, v1, v2, zrI, zrL, zrR, Shp_wI, Shp_wJ, zR_wI, zR_wJ, zJ_wI, zI_wJ, zobj_wI, zobj_wJ, zarr_wI, zarr_wJ, zS_wI, zS_wJ, o_192, a_193, a_194, a_195, a_196, a_197, a_198, a_199, a_200, a_201, a_202, a_203, a_204, a_205, a_206, a_207, a_208, a_209, a_210, r_192_0, r_192_1, r_192_2, r_192_3, r_192_4, r_192_5, r_192_7, r_192_8, r_192_14, r_192_16, r_192_17, r_192_18, r_192_19, r_192_20, r_192_22, r_192_23, r_192_25, r_192_26, zrI, zrL, zrR, ne_eq, true_and, and_true, true_or, or_true, not_true_eq_false, not_false_eq_true, false_and, and_false, forall_const, true_implies, false_implies, implies_true, reduceCtorEq, Int.reduceEq, Int.reduceNe, Int.reduceLT, Int.reduceLE, Int.reduceNeg, Nat.reduceEqDiff, if_true, if_false, reduceIte, Int.reduceMul, Int.reduceAdd, Int.reduceSub]
      have ec : cutF x f (k + 1) = cutS x (cutF x f k) (400 - (k : Int)) := rfl
      refine ⟨fun c => by omega, fun _ => ⟨by omega, by omega, fun c => ?_, fun c => ⟨by omega, ?_⟩⟩⟩
      · have hp1 := div_pos (by omega) x0 c
        have hFd := hF.le (v := (400 - (k : Int)) / x) (by omega) (by omega)
        have := ih (k + 1) (wI (wI τ 203 ((400 - (k : Int)) / x) (cutF x f k ((400 - (k : Int)) / x) + x * cutF x f k (400 - (k : Int)))) 203 (400 - (k : Int)) 0) (by omega) (by rw [ec]; unfold cutS; rw [if_pos c]; exact (hT.w _ _).w _ _) ((f1.tr (Fr.wI rfl)).tr (Fr.wI rfl))
        rw [show 400 - ((k + 1 : Nat) : Int) = 400 - (k : Int) + -1 by omega] at this
        repeat' first | omega | exact Or.inl (by omega) | apply And.intro | refine fun (_ : _ ≤ _) => ?_ | refine fun (_ : _ < _) => ?_ | refine fun (_ : _ = _) => ?_ | refine fun (_ : ¬ (_ = _)) => ?_ | refine fun (_ : _ ∨ _) => ?_
        all_goals exact this
      · have := ih (k + 1) τ (by omega) (by rw [ec]; unfold cutS; rw [if_neg c]; exact hT) f1
        rw [show 400 - ((k + 1 : Nat) : Int) = 400 - (k : Int) + -1 by omega] at this
        exact this
  exact k4 400 0 σ (by omega) ho Fr.rf
theorem t_mBack_80 {Q : ZQ} {σ : ZM} {M : Int → List Int} {f : Int → Int} {x d : Int} {u1 u3 : PV} (hS : Shp σ) (m : MS σ M) (ho : Oc σ 203 f) (hf : OcP f) (x0 : 2 ≤ x) (x1 : x ≤ 12) (q : ∀ σ', MS σ' (upS M 8 (oL (gthF x f 400) 400)) → Fr m3f σ σ' → mTl Q d σ') : WP m_Mod_back 80 [zr 192, u1, zi x, u3, zi d, zi 1] [] σ (0, 0) Q := by
  have k2 : ∀ (g k : Nat) (τ : ZM), k + g = 400 → Oc τ 203 (gthF x f k) → Fr (fun a => a = 203) σ τ → WP m_Mod_back 80 [zr 192, u1, zi x, u3, zi d, zi ((k : Int) + 1)] [] τ (0, 0) Q := by
    intro g
    induction g with
    | zero =>
      intro k τ hk hT f1
      have hTs := f1.shp hS
      have mT := f1.ms (by omega) (by omega) m
      rw [show k = 400 by omega] at hT
      refine r_Mod_back_80 ?_
      simp only [hTs, zrI, zrL, zrR, Shp_wI, Shp_wJ, zR_wI, zR_wJ, zJ_wI, zI_wJ, zobj_wI, zobj_wJ, zarr_wI, zarr_wJ, zS_wI, zS_wJ, o_192, a_193, a_194, a_195, a_196, a_197, a_198, a_199, a_200, a_201, a_202, a_203, a_204, a_205, a_206, a_207, a_208, a_209, a_210, r_192_0, r_192_1, r_192_2, r_192_3, r_192_4, r_192_5, r_192_7, r_192_8, r_192_14, r_192_16, r_192_17, r_192_18, r_192_19, r_192_20, r_192_22, r_192_23, r_192_25, r_192_26, zrI, zrL, zrR, ne_eq, true_and, and_true, true_or, or_true, not_true_eq_false, not_false_eq_true, false_and, and_false, forall_const, true_implies, false_implies, implies_true, reduceCtorEq, Int.reduceEq, Int.reduceNe, Int.reduceLT, Int.reduceLE, Int.reduceNeg, Nat.reduceEqDiff, if_true, if_false, reduceIte, Int.reduceMul, Int.reduceAdd, Int.reduceSub]
      refine ⟨fun _ => t_mFromOften hTs mT hT (gthF_OcP hf x0 400 (Nat.le_refl _)) (fun υ j1 j2 => ?_), fun c => by omega⟩
      have hU := j2.shp hTs
      have := q υ j1 ((f1.mono (fun a w => Or.inl w)).tr (j2.mono (fun a w => Or.inr w)))
      unfold mTl at this
      simp only [hU, zrI, zrL, zrR, Shp_wI, Shp_wJ, zR_wI, zR_wJ, zJ_wI, zI_wJ, zobj_wI, zobj_wJ, zarr_wI, zarr_wJ, zS_wI, zS_wJ, o_192, a_193, a_194, a_195, a_196, a_197, a_198, a_199, a_200, a_201, a_202, a_203, a_204, a_205, a_206, a_207, a_208, a_209, a_210, r_192_0, r_192_1, r_192_2, r_192_3, r_192_4, r_192_5, r_192_7, r_192_8, r_192_14, r_192_16, r_192_17, r_192_18, r_192_19, r_192_20, r_192_22, r_192_23, r_192_25, r_192_26, zrI, zrL, zrR, ne_eq, true_and, and_true, true_or, or_true, not_true_eq_false, not_false_eq_true, false_and, and_false, forall_const, true_implies, false_implies, implies_true, reduceCtorEq, Int.reduceEq, Int.reduceNe, Int.reduceLT, Int.reduceLE, Int.reduceNeg, Nat.reduceEqDiff, if_true, if_false, reduceIte, Int.reduceMul, Int.reduceAdd, Int.reduceSub]
      exact this
    | succ g ih =>
      intro k τ hk hT f1
      have hTs := f1.shp hS
      have hF := gthF_OcP hf x0 k (by omega)
      have hx : ((k : Int) + 1) * 2 ≤ ((k : Int) + 1) * x := Int.mul_le_mul_of_nonneg_left x0 (by omega)
      have v1 := hT ((k : Int) + 1) (by omega) (by omega)
      have hFv := hF.le (v := (k : Int) + 1) (by omega) (by omega)
      have hFm := hF.mul (v := (k : Int) + 1) (by omega) (by omega)
      have e1 : Int.tmod (gthF x f k ((k : Int) + 1)) x = gthF x f k ((k : Int) + 1) % x := Int.tmod_eq_emod_of_nonneg hFv.1
      have e2 : Int.tdiv (gthF x f k ((k : Int) + 1)) x = gthF x f k ((k : Int) + 1) / x := Int.tdiv_eq_ediv_of_nonneg hFv.1
      have d0 : 0 ≤ gthF x f k ((k : Int) + 1) / x := Int.ediv_nonneg hFv.1 (by omega)
      have d1 : gthF x f k ((k : Int) + 1) / x ≤ gthF x f k ((k : Int) + 1) := Int.ediv_le_self _ hFv.1
      refine r_Mod_back_80 ?_
      by_cases c : x ≤ gthF x f k ((k : Int) + 1)
      · have hxm : ((k : Int) + 1) * x ≤ ((k : Int) + 1) * gthF x f k ((k : Int) + 1) := Int.mul_le_mul_of_nonneg_left c (by omega)
        have v2 := hT (((k : Int) + 1) * x) (by omega) (by omega)
        have hFd := hF.le (v := ((k : Int) + 1) * x) (by omega) (by omega)
        have ec : gthF x f (k + 1) = gthS x (gthF x f k) ((k : Int) + 1) := by
          show (if ((k : Int) + 1) * x ≤ 400 then gthS x (gthF x f k) ((k : Int) + 1) else gthF x f k) = _
          rw [if_pos (by omega)]
        have v3 : zI (wI τ 203 (((k : Int) + 1) * x) (gthF x f k (((k : Int) + 1) * x) + gthF x f k ((k : Int) + 1) / x)) 203 ((k : Int) + 1) = gthF x f k ((k : Int) + 1) := by
          rw [zI_wI, if_neg (by omega)]
          exact v1
        have := ih (k + 1) (wI (wI τ 203 (((k : Int) + 1) * x) (gthF x f k (((k : Int) + 1) * x) + gthF x f k ((k : Int) + 1) / x)) 203 ((k : Int) + 1) (gthF x f k ((k : Int) + 1) % x)) (by omega) (by rw [ec]; exact (hT.w _ _).w _ _) ((f1.tr (Fr.wI rfl)).tr (Fr.wI rfl))
        rw [show ((k + 1 : Nat) : Int) + 1 = (k : Int) + 1 + 1 by omega] at this
        simp only [hTs, e1, e2, v1, v2, v3, zrI, zrL, zrR, Shp_wI, Shp_wJ, zR_wI, zR_wJ, zJ_wI, zI_wJ, zobj_wI, zobj_wJ, zarr_wI, zarr_wJ, zS_wI, zS_wJ, o_192, a_193, a_194, a_195, a_196, a_197, a_198, a_199, a_200, a_201, a_202, a_203, a_204, a_205, a_206, a_207, a_208, a_209, a_210, r_192_0, r_192_1, r_192_2, r_192_3, r_192_4, r_192_5, r_192_7, r_192_8, r_192_14, r_192_16, r_192_17, r_192_18, r_192_19, r_192_20, r_192_22, r_192_23, r_192_25, r_192_26, zrI, zrL, zrR, ne_eq, true_and, and_true, true_or, or_true, not_true_eq_false, not_false_eq_true, false_and, and_false, forall_const, true_implies, false_implies, implies_true, reduceCtorEq, Int.reduceEq, Int.reduceNe, Int.reduceLT, Int.reduceLE, Int.reduceNeg, Nat.reduceEqDiff, if_true, if_false, reduceIte, Int.reduceMul, Int.reduceAdd, Int.reduceSub]
        refine ⟨fun w => by omega, fun _ => ⟨by omega, fun _ => ?_, fun w => by omega⟩⟩
        repeat' first | omega | exact Or.inl (by omega) | apply And.intro | refine fun (_ : _ ≤ _) => ?_ | refine fun (_ : _ < _) => ?_ | refine fun (_ : _ = _) => ?_ | refine fun (_ : ¬ (_ = _)) => ?_ | refine fun (_ : _ ∨ _) => ?_
        all_goals exact this
      · have ec : gthF x f (k + 1) = gthF x f k := by
          show (if ((k : Int) + 1) * x ≤ 400 then gthS x (gthF x f k) ((k : Int) + 1) else gthF x f k) = _
          rw [gthS_id x0 (by omega) hFv.1 (by omega)]
          split <;> rfl
        have := ih (k + 1) τ (by omega) (by rw [ec]; exact hT) f1
        rw [show ((k + 1 : Nat) : Int) + 1 = (k : Int) + 1 + 1 by omega] at this
        simp only [hTs, e1, e2, v1, zrI, zrL, zrR, Shp_wI, Shp_wJ, zR_wI, zR_wJ, zJ_wI, zI_wJ, zobj_wI, zobj_wJ, zarr_wI, zarr_wJ, zS_wI, zS_wJ, o_192, a_193, a_194, a_195, a_196, a_197, a_198, a_199, a_200, a_201, a_202, a_203, a_204, a_205, a_206, a_207, a_208, a_209, a_210, r_192_0, r_192_1, r_192_2, r_192_3, r_192_4, r_192_5, r_192_7, r_192_8, r_192_14, r_192_16, r_192_17, r_192_18, r_192_19, r_192_20, r_192_22, r_192_23, r_192_25, r_192_26, zrI, zrL, zrR, ne_eq, true_and, and_true, true_or, or_true, not_true_eq_false, not_false_eq_true, false_and, and_false, forall_const, true_implies, false_implies, implies_true, reduceCtorEq, Int.reduceEq, Int.reduceNe, Int.reduceLT, Int.reduceLE, Int.reduceNeg, Nat.reduceEqDiff, if_true, if_false, reduceIte, Int.reduceMul, Int.reduceAdd, Int.reduceSub]
        exact ⟨fun w => by omega, fun _ => ⟨by omega, fun w => absurd w c, fun _ => ⟨by omega, this⟩⟩⟩
  exact k2 400 0 σ (by omega) ho Fr.rf
