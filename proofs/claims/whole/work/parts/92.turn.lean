/-! turned: a SUM again, worth the same; turn of the reference; isOwn of the class -/
theorem sm_plus {f g : Int → Int} : ∀ n : Nat, sm (fun i => f i + g i) n = sm f n + sm g n
  | 0 => rfl
  | n + 1 => by
    show sm (fun i => f i + g i) n + (f n + g n) = (sm f n + f n) + (sm g n + g n)
    rw [sm_plus n]
    omega
theorem sm_zero : ∀ n : Nat, sm (fun _ => 0) n = 0
  | 0 => rfl
  | n + 1 => by
    show sm (fun _ => 0) n + 0 = 0
    rw [sm_zero n]
    rfl
theorem sm_ga {l : List Int} : ∀ k : Nat, sm (fun i => ga l i) k = (l.take k).sum
  | 0 => rfl
  | k + 1 => by
    show sm (fun i => ga l i) k + ga l (k : Int) = _
    rw [sm_ga k]
    by_cases c : k < l.length
    · have e := take_snoc (l := l) (i := (k : Int)) (by omega) (by omega)
      rw [show ((k : Int) + 1).toNat = k + 1 by omega, Int.toNat_natCast] at e
      rw [e, List.sum_append]
      simp
    · rw [ga_out (by omega), List.take_of_length_le (by omega), List.take_of_length_le (by omega)]
      simp
theorem cjN_sm {l : List Int} (hp : Pt l) : ∀ n : Nat, (cjN l n).sum = sm (fun k => min (ga l k) (n : Int)) 400
  | 0 => by
    rw [sm_ext (g := fun _ => 0) 400 (fun i i0 i1 => by have := hp.rng i; show min (ga l i) ((0 : Nat) : Int) = 0; omega), sm_zero]
    simp [cjN]
  | n + 1 => by
    rw [cjN_snoc, List.sum_append, cjN_sm hp n]
    unfold colN
    simp only [List.sum_cons, List.sum_nil, Int.add_zero]
    rw [← sm_plus]
    refine sm_ext 400 (fun i i0 i1 => ?_)
    show min (ga l i) (n : Int) + (if (n : Int) < ga l i then 1 else 0) = min (ga l i) ((n + 1 : Nat) : Int)
    split <;> omega
theorem cj_sum {l : List Int} (hp : Pt l) : (cj l).sum = l.sum := by
  have hlen := hp.len
  have h4 := hp.2.1
  unfold cj
  rw [cjN_sm hp]
  have := sm_ga (l := l) 400
  rw [List.take_of_length_le (by omega)] at this
  rw [← this]
  refine sm_ext 400 (fun i i0 i1 => ?_)
  have h1 := hp.2.2 0 i (by omega) i0
  have h2 := hp.rng i
  have h3 := hp.rng 0
  show min (ga l i) (((ga l 0).toNat : Nat) : Int) = ga l i
  omega
theorem colN_anti {l : List Int} {i j : Int} (hp : Pt l) (i0 : 0 ≤ i) (h : i ≤ j) : colN l j ≤ colN l i := by
  have h1 := (colN_isFst (j := i) hp i0).1
  have h2 := (colN_isFst (j := j) hp (by omega)).1
  rcases Int.lt_or_le (colN l i) (colN l j) with w | w
  · have h3 : j < ga l (colN l i) := h2.2.1 (colN l i) h1.1 w
    have h4 : ¬ i < ga l (colN l i) := h1.2.2
    omega
  · exact w
theorem colN_pos {l : List Int} {j : Int} (hp : Pt l) (j0 : 0 ≤ j) (h : j < ga l 0) : 1 ≤ colN l j := by
  have h1 := (colN_isFst (j := j) hp j0).1
  rcases Int.lt_or_le 0 (colN l j) with w | w
  · omega
  · have e : colN l j = 0 := by have := h1.1; omega
    have h4 : ¬ j < ga l (colN l j) := h1.2.2
    rw [e] at h4
    exact absurd h h4
theorem Pt_cj {l : List Int} (hp : Pt l) : Pt (cj l) := by
  refine ⟨fun x hx => ?_, by rw [cj_sum hp]; exact hp.2.1, fun i j i0 h => ?_⟩
  · unfold cj cjN at hx
    rw [List.mem_map] at hx
    obtain ⟨j, hj, e⟩ := hx
    rw [List.mem_range] at hj
    rw [← e]
    exact colN_pos hp (by omega) (by omega)
  · rw [ga_cj hp i0, ga_cj hp (by omega)]
    exact colN_anti hp i0 h
theorem t_mTurn {Q : ZQ} {σ : ZM} {M : Int → List Int} {s : Int} (hS : Shp σ) (m : MS σ M) (s0 : 0 ≤ s) (s1 : s ≤ 7) (hp : Pt (M s)) (q : ∀ σ', MS σ' (upS M 8 (cj (M s))) → Fr mfr σ σ' → Q zu σ') : WP m_Mod_turn 0 [zr 192, zi s, zu] [] σ (0, 0) Q := by
  have hr := hp.rng 0
  have e8 : ∀ acc : List Int, upS M 8 acc s = M s := fun acc => by unfold upS; rw [if_neg (by omega)]
  have k8 : ∀ (g j : Nat) (τ : ZM), (j : Int) + g = ga (M s) 0 → MS τ (upS M 8 (cjN (M s) j)) → Fr mfr σ τ → WP m_Mod_turn 8 [zr 192, zi s, zi (j : Int)] [] τ (0, 0) Q := by
    intro g
    induction g with
    | zero =>
      intro j τ hj mT f
      have hT := f.shp hS
      refine r_Mod_turn_8 ?_
      simp only [hT, zrI, zrL, zrR, Shp_wI, Shp_wJ, zR_wI, zR_wJ, zJ_wI, zI_wJ, zobj_wI, zobj_wJ, zarr_wI, zarr_wJ, zS_wI, zS_wJ, o_192, a_193, a_194, a_195, a_196, a_197, a_198, a_199, a_200, a_201, a_202, a_203, a_204, a_205, a_206, a_207, a_208, a_209, a_210, r_192_0, r_192_1, r_192_2, r_192_3, r_192_4, r_192_5, r_192_7, r_192_8, r_192_14, r_192_16, r_192_17, r_192_18, r_192_19, r_192_20, r_192_22, r_192_23, r_192_25, r_192_26, zrI, zrL, zrR, ne_eq, true_and, and_true, true_or, or_true, not_true_eq_false, not_false_eq_true, false_and, and_false, forall_const, true_implies, false_implies, implies_true, reduceCtorEq, Int.reduceEq, Int.reduceNe, Int.reduceLT, Int.reduceLE, Int.reduceNeg, Nat.reduceEqDiff, if_true, if_false, reduceIte, Int.reduceMul, Int.reduceAdd, Int.reduceSub]
      refine t_mAt hT mT s0 (by omega) (by omega) ?_
      rw [e8]
      simp only [zrI, zrL, zrR, ne_eq, true_and, and_true, true_or, or_true, not_true_eq_false, not_false_eq_true, false_and, and_false, forall_const, true_implies, false_implies, implies_true, reduceCtorEq, Int.reduceEq, Int.reduceNe, Int.reduceLT, Int.reduceLE, Int.reduceNeg, Nat.reduceEqDiff, if_true, if_false, reduceIte, Int.reduceMul, Int.reduceAdd, Int.reduceSub]
      refine ⟨fun _ => q τ ?_ f, fun c => by omega⟩
      unfold cj
      rw [show (ga (M s) 0).toNat = j by omega]
      exact mT
    | succ g ih =>
      intro j τ hj mT f
      have hT := f.shp hS
      refine r_Mod_turn_8 ?_
      simp only [hT, zrI, zrL, zrR, Shp_wI, Shp_wJ, zR_wI, zR_wJ, zJ_wI, zI_wJ, zobj_wI, zobj_wJ, zarr_wI, zarr_wJ, zS_wI, zS_wJ, o_192, a_193, a_194, a_195, a_196, a_197, a_198, a_199, a_200, a_201, a_202, a_203, a_204, a_205, a_206, a_207, a_208, a_209, a_210, r_192_0, r_192_1, r_192_2, r_192_3, r_192_4, r_192_5, r_192_7, r_192_8, r_192_14, r_192_16, r_192_17, r_192_18, r_192_19, r_192_20, r_192_22, r_192_23, r_192_25, r_192_26, zrI, zrL, zrR, ne_eq, true_and, and_true, true_or, or_true, not_true_eq_false, not_false_eq_true, false_and, and_false, forall_const, true_implies, false_implies, implies_true, reduceCtorEq, Int.reduceEq, Int.reduceNe, Int.reduceLT, Int.reduceLE, Int.reduceNeg, Nat.reduceEqDiff, if_true, if_false, reduceIte, Int.reduceMul, Int.reduceAdd, Int.reduceSub]
      refine t_mAt hT mT s0 (by omega) (by omega) ?_
      rw [e8]
      simp only [hT, zrI, zrL, zrR, Shp_wI, Shp_wJ, zR_wI, zR_wJ, zJ_wI, zI_wJ, zobj_wI, zobj_wJ, zarr_wI, zarr_wJ, zS_wI, zS_wJ, o_192, a_193, a_194, a_195, a_196, a_197, a_198, a_199, a_200, a_201, a_202, a_203, a_204, a_205, a_206, a_207, a_208, a_209, a_210, r_192_0, r_192_1, r_192_2, r_192_3, r_192_4, r_192_5, r_192_7, r_192_8, r_192_14, r_192_16, r_192_17, r_192_18, r_192_19, r_192_20, r_192_22, r_192_23, r_192_25, r_192_26, zrI, zrL, zrR, ne_eq, true_and, and_true, true_or, or_true, not_true_eq_false, not_false_eq_true, false_and, and_false, forall_const, true_implies, false_implies, implies_true, reduceCtorEq, Int.reduceEq, Int.reduceNe, Int.reduceLT, Int.reduceLE, Int.reduceNeg, Nat.reduceEqDiff, if_true, if_false, reduceIte, Int.reduceMul, Int.reduceAdd, Int.reduceSub]
      refine ⟨fun c => by omega, fun _ => t_mColumn hT mT s0 (by omega) (by rw [e8]; exact hp) (by omega) ?_⟩
      rw [e8]
      simp only [hT, zrI, zrL, zrR, Shp_wI, Shp_wJ, zR_wI, zR_wJ, zJ_wI, zI_wJ, zobj_wI, zobj_wJ, zarr_wI, zarr_wJ, zS_wI, zS_wJ, o_192, a_193, a_194, a_195, a_196, a_197, a_198, a_199, a_200, a_201, a_202, a_203, a_204, a_205, a_206, a_207, a_208, a_209, a_210, r_192_0, r_192_1, r_192_2, r_192_3, r_192_4, r_192_5, r_192_7, r_192_8, r_192_14, r_192_16, r_192_17, r_192_18, r_192_19, r_192_20, r_192_22, r_192_23, r_192_25, r_192_26, zrI, zrL, zrR, ne_eq, true_and, and_true, true_or, or_true, not_true_eq_false, not_false_eq_true, false_and, and_false, forall_const, true_implies, false_implies, implies_true, reduceCtorEq, Int.reduceEq, Int.reduceNe, Int.reduceLT, Int.reduceLE, Int.reduceNeg, Nat.reduceEqDiff, if_true, if_false, reduceIte, Int.reduceMul, Int.reduceAdd, Int.reduceSub]
      refine t_mPush' hT mT (by omega) (by omega) (by rw [cjN_len]; omega) (fun υ j1 j2 => ⟨by omega, ?_⟩)
      rw [← cjN_snoc] at j1
      have := ih (j + 1) υ (by omega) j1 (f.tr j2)
      rw [Int.natCast_succ] at this
      exact this
  refine r_Mod_turn_0 ?_
  simp only [hS, zrI, zrL, zrR, Shp_wI, Shp_wJ, zR_wI, zR_wJ, zJ_wI, zI_wJ, zobj_wI, zobj_wJ, zarr_wI, zarr_wJ, zS_wI, zS_wJ, o_192, a_193, a_194, a_195, a_196, a_197, a_198, a_199, a_200, a_201, a_202, a_203, a_204, a_205, a_206, a_207, a_208, a_209, a_210, r_192_0, r_192_1, r_192_2, r_192_3, r_192_4, r_192_5, r_192_7, r_192_8, r_192_14, r_192_16, r_192_17, r_192_18, r_192_19, r_192_20, r_192_22, r_192_23, r_192_25, r_192_26, zrI, zrL, zrR, ne_eq, true_and, and_true, true_or, or_true, not_true_eq_false, not_false_eq_true, false_and, and_false, forall_const, true_implies, false_implies, implies_true, reduceCtorEq, Int.reduceEq, Int.reduceNe, Int.reduceLT, Int.reduceLE, Int.reduceNeg, Nat.reduceEqDiff, if_true, if_false, reduceIte, Int.reduceMul, Int.reduceAdd, Int.reduceSub]
  exact t_mEmpty hS m (by omega) (by omega) (fun τ w1 w2 => k8 (ga (M s) 0).toNat 0 τ (by omega) w1 w2)
theorem t_isOwn {Q : ZQ} {σ : ZM} {g : Nat} {l : List Int} (hS : Shp σ) (hg : isS g) (hd : 150 ≠ g ∧ 150 ≠ g + 1 ∧ 150 + 1 ≠ g) (hi : isS 150) (hl : Lz σ g l) (hp : Pt l) (q1 : owL l → ∀ σ', Fr (two 150) σ σ' → Q (zi 1) σ') (q0 : ¬ owL l → ∀ σ', Fr (two 150) σ σ' → Q (zi 0) σ') : WP m_Leads_isOwn 0 [zr 146, zr g] [] σ (0, 0) Q := by
  refine r_Leads_isOwn_0 ?_
  simp only [hS, (hS.sumO hi).1, zrI, zrL, zrR, Shp_wI, Shp_wJ, zR_wI, zR_wJ, zJ_wI, zI_wJ, zobj_wI, zobj_wJ, zarr_wI, zarr_wJ, zS_wI, zS_wJ, o_2, a_3, a_4, a_5, o_10, a_11, a_12, o_137, o_138, a_139, o_140, a_141, o_142, a_143, o_146, a_147, a_148, a_149, o_152, a_153, o_154, a_157, o_158, a_159, r_2_0, r_2_1, r_2_2, r_2_3, r_2_4, r_2_5, r_2_6, r_2_7, r_2_8, r_2_9, r_2_10, r_10_0, r_10_1, r_137_0, r_137_1, r_137_2, r_138_0, r_140_0, r_142_0, r_146_0, r_146_1, r_146_2, r_146_3, r_152_0, r_154_0, r_154_1, r_158_0, zrI, zrL, zrR, ne_eq, true_and, and_true, true_or, or_true, not_true_eq_false, not_false_eq_true, false_and, and_false, forall_const, true_implies, false_implies, implies_true, reduceCtorEq, Int.reduceEq, Int.reduceNe, Int.reduceLT, Int.reduceLE, Int.reduceNeg, Nat.reduceEqDiff, if_true, if_false, reduceIte, Int.reduceMul, Int.reduceAdd, Int.reduceSub]
  refine t_Sum_turn hd hp (hS.sumO hi) (hS.sumO hg) hl (fun τ w1 w2 => ?_)
  have hT := w2.shp hS
  simp only [hT, zrI, zrL, zrR, Shp_wI, Shp_wJ, zR_wI, zR_wJ, zJ_wI, zI_wJ, zobj_wI, zobj_wJ, zarr_wI, zarr_wJ, zS_wI, zS_wJ, o_2, a_3, a_4, a_5, o_10, a_11, a_12, o_137, o_138, a_139, o_140, a_141, o_142, a_143, o_146, a_147, a_148, a_149, o_152, a_153, o_154, a_157, o_158, a_159, r_2_0, r_2_1, r_2_2, r_2_3, r_2_4, r_2_5, r_2_6, r_2_7, r_2_8, r_2_9, r_2_10, r_10_0, r_10_1, r_137_0, r_137_1, r_137_2, r_138_0, r_140_0, r_142_0, r_146_0, r_146_1, r_146_2, r_146_3, r_152_0, r_154_0, r_154_1, r_158_0, zrI, zrL, zrR, ne_eq, true_and, and_true, true_or, or_true, not_true_eq_false, not_false_eq_true, false_and, and_false, forall_const, true_implies, false_implies, implies_true, reduceCtorEq, Int.reduceEq, Int.reduceNe, Int.reduceLT, Int.reduceLE, Int.reduceNeg, Nat.reduceEqDiff, if_true, if_false, reduceIte, Int.reduceMul, Int.reduceAdd, Int.reduceSub]
  refine t_firstNotAlike (hT.sumO hg) (hT.sumO hi) (w2.lz (by omega) (by omega) hl) w1 (fun r hr => ?_)
  simp only [zrI, zrL, zrR, ne_eq, true_and, and_true, true_or, or_true, not_true_eq_false, not_false_eq_true, false_and, and_false, forall_const, true_implies, false_implies, implies_true, reduceCtorEq, Int.reduceEq, Int.reduceNe, Int.reduceLT, Int.reduceLE, Int.reduceNeg, Nat.reduceEqDiff, if_true, if_false, reduceIte, Int.reduceMul, Int.reduceAdd, Int.reduceSub]
  rcases hr with ⟨e, hn⟩ | ⟨r0, r1, r2, _⟩
  · refine ⟨fun c => absurd e c, fun _ => q1 (fun i i0 i1 => ?_) τ w2⟩
    rw [hn i i0 i1, ga_cj hp i0]
  · refine ⟨fun _ => q0 (fun w => r2 ?_) τ w2, fun c => by omega⟩
    rw [ga_cj hp r0]
    exact w r r0 r1
