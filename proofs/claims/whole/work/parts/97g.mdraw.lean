/-! lead 2, reference: fromHooks, back -/
def fhR (l : List Int) (i : Int) (n : Nat) : Int := sm (fun h => if i = h then (ga l h - 1) / 2 + 1 else if h < i ∧ i ≤ h + (ga l h - 1) / 2 then 1 else 0) n
theorem sm_one {A : Int → Int} {i : Int} (i0 : 0 ≤ i) : ∀ n : Nat, sm (fun k => if i = k then A k else 0) n = if i < (n : Int) then A i else 0
  | 0 => by rw [if_neg (by omega)]; rfl
  | n + 1 => by
    show sm _ n + (if i = (n : Int) then A (n : Int) else 0) = _
    rw [sm_one i0 n]
    by_cases c : i = (n : Int)
    · rw [if_neg (by omega), if_pos c, if_pos (by omega), c]
      omega
    · rw [if_neg c]
      by_cases c2 : i < (n : Int)
      · rw [if_pos c2, if_pos (by omega)]
        omega
      · rw [if_neg c2, if_neg (by omega)]
        omega
theorem fh_eq {l : List Int} (hp : Pt l) (ho : odL l) {i : Int} (i0 : 0 ≤ i) : fhR l i l.length = drR (hfL l) (hfL l) l.length i := by
  unfold drR fhR
  rw [← sm_one i0, ← sm_plus]
  refine sm_ext _ (fun k k0 k1 => ?_)
  have h1 := ho k k0 k1
  have h2 := hp.pos k0 k1
  have e : (ga l k - 1) / 2 = hfL l k := by unfold hfL; omega
  have e0 : 0 ≤ hfL l k := by unfold hfL; omega
  show (if i = k then (ga l k - 1) / 2 + 1 else if k < i ∧ i ≤ k + (ga l k - 1) / 2 then 1 else 0) = (if i = k then hfL l k else 0) + (if k ≤ i ∧ i ≤ k + hfL l k then 1 else 0)
  rw [e]
  by_cases c : i = k
  · rw [if_pos c, if_pos c, if_pos (by omega)]
  · rw [if_neg c, if_neg c]
    by_cases c2 : k < i ∧ i ≤ k + hfL l k
    · rw [if_pos c2, if_pos (by omega)]
      omega
    · rw [if_neg c2, if_neg (by omega)]
      omega
theorem fhR_bd {l : List Int} (hp : Pt l) {i : Int} (n : Nat) : 0 ≤ fhR l i n ∧ fhR l i n ≤ (n : Int) * 401 := by
  have := sm_bd (f := fun h => if i = h then (ga l h - 1) / 2 + 1 else if h < i ∧ i ≤ h + (ga l h - 1) / 2 then 1 else 0) (B := 401) n (fun k k0 k1 => by
    have := hp.rng k
    split
    · omega
    · split <;> omega)
  exact this
theorem t_mFromHooks {Q : ZQ} {σ : ZM} {M : Int → List Int} {s : Int} (hS : Shp σ) (m : MS σ M) (s0 : 0 ≤ s) (s1 : s ≤ 7) (hp : Pt (M s)) (hu : unL (M s)) (ho : odL (M s)) (q : ∀ σ', MS σ' (upS M 8 (drL (hfL (M s)) (hfL (M s)) (M s).length)) → Fr mfr σ σ' → Q zu σ') : WP m_Mod_fromHooks 0 [zr 192, zi s, zu, zu, zu, zu, zu, zu] [] σ (0, 0) Q := by
  have hlen := hp.len
  have h4 := hp.2.1
  have e8 : ∀ acc : List Int, upS M 8 acc s = M s := fun acc => by unfold upS; rw [if_neg (by omega)]
  have hD := hfL_DrP hp hu ho
  have hPt := hD.isPt
  have hh := hD.hgt
  have hH4 : drH (hfL (M s)) (M s).length ≤ 400 := by
    have := hPt.len
    unfold drL at this
    rw [tbl_len] at this
    omega
  have k35 : ∀ (e j : Nat) (u5 u6 u7 : PV) (τ : ZM), j + e = drH (hfL (M s)) (M s).length → MS τ (upS M 8 (tbl (drR (hfL (M s)) (hfL (M s)) (M s).length) j)) → Fr mfr σ τ → WP m_Mod_fromHooks 35 [zr 192, zi s, zi ((M s).length : Int), zi (drH (hfL (M s)) (M s).length : Int), zi (j : Int), u5, u6, u7] [] τ (0, 0) Q := by
    intro e
    induction e with
    | zero =>
      intro j u5 u6 u7 τ hj mT f1
      rw [show j = drH (hfL (M s)) (M s).length by omega] at mT
      exact r_Mod_fromHooks_35 ⟨fun _ => q τ mT f1, fun w => by omega⟩
    | succ e ih =>
      intro j u5 u6 u7 τ hj mT f1
      have hT := f1.shp hS
      refine r_Mod_fromHooks_35 ⟨fun w => by omega, fun _ => ?_⟩
      have k47 : ∀ (g n : Nat) (u7 : PV), n + g = (M s).length → WP m_Mod_fromHooks 47 [zr 192, zi s, zi ((M s).length : Int), zi (drH (hfL (M s)) (M s).length : Int), zi (j : Int), zi (fhR (M s) (j : Int) n), zi (n : Int), u7] [] τ (0, 0) Q := by
        intro g
        induction g with
        | zero =>
          intro n u7 hn
          rw [show n = (M s).length by omega, fh_eq hp ho (by omega)]
          obtain ⟨r1, r2, r3⟩ := Pt.room (f := drR (hfL (M s)) (hfL (M s)) (M s).length) (n := drH (hfL (M s)) (M s).length) (j := j) hPt (by omega)
          refine r_Mod_fromHooks_47 ?_
          simp only [hT, zrI, zrL, zrR, Shp_wI, Shp_wJ, zR_wI, zR_wJ, zJ_wI, zI_wJ, zobj_wI, zobj_wJ, zarr_wI, zarr_wJ, zS_wI, zS_wJ, o_192, a_193, a_194, a_195, a_196, a_197, a_198, a_199, a_200, a_201, a_202, a_203, a_204, a_205, a_206, a_207, a_208, a_209, a_210, r_192_0, r_192_1, r_192_2, r_192_3, r_192_4, r_192_5, r_192_7, r_192_8, r_192_14, r_192_16, r_192_17, r_192_18, r_192_19, r_192_20, r_192_22, r_192_23, r_192_25, r_192_26, zrI, zrL, zrR, ne_eq, true_and, and_true, true_or, or_true, not_true_eq_false, not_false_eq_true, false_and, and_false, forall_const, true_implies, false_implies, implies_true, reduceCtorEq, Int.reduceEq, Int.reduceNe, Int.reduceLT, Int.reduceLE, Int.reduceNeg, Nat.reduceEqDiff, if_true, if_false, reduceIte, Int.reduceMul, Int.reduceAdd, Int.reduceSub]
          refine ⟨fun _ => t_mPush' hT mT (by omega) (by omega) r1 (fun υ j1 j2 => ⟨by omega, ?_⟩), fun w => by omega⟩
          rw [← tbl_snoc] at j1
          have := ih (j + 1) (zi (drR (hfL (M s)) (hfL (M s)) (M s).length (j : Int))) (zi ((M s).length : Int)) u7 υ (by omega) j1 (f1.tr j2)
          rw [Int.natCast_succ] at this
          exact this
        | succ g ihg =>
          intro n u7 hn
          have hr := hp.rng (n : Int)
          have hps := hp.pos (i := (n : Int)) (by omega) (by omega)
          have hb := fhR_bd hp (i := (j : Int)) n
          have e2 : Int.tdiv (ga (M s) (n : Int) - 1) 2 = (ga (M s) (n : Int) - 1) / 2 := Int.tdiv_eq_ediv_of_nonneg (by omega)
          have en : fhR (M s) (j : Int) (n + 1) = fhR (M s) (j : Int) n + (if (j : Int) = (n : Int) then (ga (M s) (n : Int) - 1) / 2 + 1 else if (n : Int) < (j : Int) ∧ (j : Int) ≤ (n : Int) + (ga (M s) (n : Int) - 1) / 2 then 1 else 0) := rfl
          have hleg : 0 ≤ (ga (M s) (n : Int) - 1) / 2 ∧ (ga (M s) (n : Int) - 1) / 2 ≤ 200 := by omega
          have ih' := ihg (n + 1) (zi ((ga (M s) (n : Int) - 1) / 2)) (by omega)
          rw [en, Int.natCast_succ] at ih'
          refine r_Mod_fromHooks_47 ?_
          simp only [hT, zrI, zrL, zrR, Shp_wI, Shp_wJ, zR_wI, zR_wJ, zJ_wI, zI_wJ, zobj_wI, zobj_wJ, zarr_wI, zarr_wJ, zS_wI, zS_wJ, o_192, a_193, a_194, a_195, a_196, a_197, a_198, a_199, a_200, a_201, a_202, a_203, a_204, a_205, a_206, a_207, a_208, a_209, a_210, r_192_0, r_192_1, r_192_2, r_192_3, r_192_4, r_192_5, r_192_7, r_192_8, r_192_14, r_192_16, r_192_17, r_192_18, r_192_19, r_192_20, r_192_22, r_192_23, r_192_25, r_192_26, zrI, zrL, zrR, ne_eq, true_and, and_true, true_or, or_true, not_true_eq_false, not_false_eq_true, false_and, and_false, forall_const, true_implies, false_implies, implies_true, reduceCtorEq, Int.reduceEq, Int.reduceNe, Int.reduceLT, Int.reduceLE, Int.reduceNeg, Nat.reduceEqDiff, if_true, if_false, reduceIte, Int.reduceMul, Int.reduceAdd, Int.reduceSub]
          refine ⟨fun w => by omega, fun _ => t_mAt hT mT s0 (by omega) (by omega) ?_⟩
          rw [e8]
          simp only [e2, zrI, zrL, zrR, ne_eq, true_and, and_true, true_or, or_true, not_true_eq_false, not_false_eq_true, false_and, and_false, forall_const, true_implies, false_implies, implies_true, reduceCtorEq, Int.reduceEq, Int.reduceNe, Int.reduceLT, Int.reduceLE, Int.reduceNeg, Nat.reduceEqDiff, if_true, if_false, reduceIte, Int.reduceMul, Int.reduceAdd, Int.reduceSub]
          generalize (ga (M s) (n : Int) - 1) / 2 = leg at *
          generalize fhR (M s) (j : Int) n = acc at *
          refine ⟨by omega, by omega, fun c => ⟨fun c2 => ⟨by omega, ?_⟩, fun c2 => ⟨by omega, fun c3 => ⟨by omega, ?_⟩, fun c3 => ⟨by omega, by omega, ?_⟩⟩⟩, fun c => ⟨by omega, by omega, by omega, ?_⟩⟩
          · rw [if_neg c, if_neg (by omega), Int.add_zero] at ih'
            exact ih'
          · rw [if_neg c, if_neg (by omega), Int.add_zero] at ih'
            exact ih'
          · rw [if_neg c, if_pos (by omega)] at ih'
            exact ih'
          · rw [if_pos c] at ih'
            exact ih'
      exact k47 (M s).length 0 u7 (by omega)
  refine r_Mod_fromHooks_0 ?_
  simp only [hS, zrI, zrL, zrR, Shp_wI, Shp_wJ, zR_wI, zR_wJ, zJ_wI, zI_wJ, zobj_wI, zobj_wJ, zarr_wI, zarr_wJ, zS_wI, zS_wJ, o_192, a_193, a_194, a_195, a_196, a_197, a_198, a_199, a_200, a_201, a_202, a_203, a_204, a_205, a_206, a_207, a_208, a_209, a_210, r_192_0, r_192_1, r_192_2, r_192_3, r_192_4, r_192_5, r_192_7, r_192_8, r_192_14, r_192_16, r_192_17, r_192_18, r_192_19, r_192_20, r_192_22, r_192_23, r_192_25, r_192_26, zrI, zrL, zrR, ne_eq, true_and, and_true, true_or, or_true, not_true_eq_false, not_false_eq_true, false_and, and_false, forall_const, true_implies, false_implies, implies_true, reduceCtorEq, Int.reduceEq, Int.reduceNe, Int.reduceLT, Int.reduceLE, Int.reduceNeg, Nat.reduceEqDiff, if_true, if_false, reduceIte, Int.reduceMul, Int.reduceAdd, Int.reduceSub]
  refine t_mEmpty hS m (by omega) (by omega) (fun τ w1 w2 => ?_)
  have hT := w2.shp hS
  have g1 := (w1 s s0 (by omega)).1
  rw [e8] at g1
  simp only [hT, g1, zrI, zrL, zrR, Shp_wI, Shp_wJ, zR_wI, zR_wJ, zJ_wI, zI_wJ, zobj_wI, zobj_wJ, zarr_wI, zarr_wJ, zS_wI, zS_wJ, o_192, a_193, a_194, a_195, a_196, a_197, a_198, a_199, a_200, a_201, a_202, a_203, a_204, a_205, a_206, a_207, a_208, a_209, a_210, r_192_0, r_192_1, r_192_2, r_192_3, r_192_4, r_192_5, r_192_7, r_192_8, r_192_14, r_192_16, r_192_17, r_192_18, r_192_19, r_192_20, r_192_22, r_192_23, r_192_25, r_192_26, zrI, zrL, zrR, ne_eq, true_and, and_true, true_or, or_true, not_true_eq_false, not_false_eq_true, false_and, and_false, forall_const, true_implies, false_implies, implies_true, reduceCtorEq, Int.reduceEq, Int.reduceNe, Int.reduceLT, Int.reduceLE, Int.reduceNeg, Nat.reduceEqDiff, if_true, if_false, reduceIte, Int.reduceMul, Int.reduceAdd, Int.reduceSub]
  refine ⟨by omega, fun c => t_mAt hT w1 s0 (by omega) (by omega) ?_, fun c => ?_⟩
  · rw [e8]
    have hr := hp.rng 0
    have h0 := ho 0 (by omega) (by omega)
    have h2 := hh.2 (by omega)
    have e2 : Int.tdiv (ga (M s) 0 + 1) 2 = (drH (hfL (M s)) (M s).length : Int) := by
      rw [Int.tdiv_eq_ediv_of_nonneg (by omega), h2]
      unfold hfL
      omega
    have hb : hfL (M s) 0 ≤ 400 ∧ 0 ≤ hfL (M s) 0 := by unfold hfL; omega
    simp only [e2, zrI, zrL, zrR, ne_eq, true_and, and_true, true_or, or_true, not_true_eq_false, not_false_eq_true, false_and, and_false, forall_const, true_implies, false_implies, implies_true, reduceCtorEq, Int.reduceEq, Int.reduceNe, Int.reduceLT, Int.reduceLE, Int.reduceNeg, Nat.reduceEqDiff, if_true, if_false, reduceIte, Int.reduceMul, Int.reduceAdd, Int.reduceSub]
    refine ⟨by omega, by omega, ?_⟩
    exact k35 (drH (hfL (M s)) (M s).length) 0 _ _ _ τ (by omega) w1 w2
  · have e0 : drH (hfL (M s)) (M s).length = 0 := by unfold drH; rw [if_pos (by omega)]
    have := k35 0 0 zu zu zu τ (by omega) w1 w2
    rw [e0] at this
    exact this
theorem t_mBack_172 {Q : ZQ} {σ : ZM} {M : Int → List Int} {s d : Int} {u1 u2 : PV} (hS : Shp σ) (m : MS σ (upS M 8 [])) (s0 : 0 ≤ s) (s1 : s ≤ 7) (hp : Pt (M s)) (ho : owL (M s)) (q : ∀ r : Int, Fst (fun i => i < ga (M s) i) r → ∀ σ', MS σ' (upS M 8 (tbl (ohR (M s)) r.toNat)) → Fr mfr σ σ' → mTl Q d σ') : WP m_Mod_back 172 [zr 192, u1, u2, zi s, zi d, zi 0] [] σ (0, 0) Q := by
  have hlen := hp.len
  have h4 := hp.2.1
  have e8 : ∀ acc : List Int, upS M 8 acc s = M s := fun acc => by unfold upS; rw [if_neg (by omega)]
  have k6 : ∀ (e j : Nat) (τ : ZM), j + e = 401 → (∀ i : Int, 0 ≤ i → i < (j : Int) → i < ga (M s) i) → MS τ (upS M 8 (tbl (ohR (M s)) j)) → Fr mfr σ τ → WP m_Mod_back 172 [zr 192, u1, u2, zi s, zi d, zi (j : Int)] [] τ (0, 0) Q := by
    intro e
    induction e with
    | zero =>
      intro j τ hj hn mT f1
      have := hn 400 (by omega) (by omega)
      rw [ga_out (by omega)] at this
      omega
    | succ e ih =>
      intro j τ hj hn mT f1
      have hT := f1.shp hS
      refine r_Mod_back_172 ?_
      simp only [hT, zrI, zrL, zrR, Shp_wI, Shp_wJ, zR_wI, zR_wJ, zJ_wI, zI_wJ, zobj_wI, zobj_wJ, zarr_wI, zarr_wJ, zS_wI, zS_wJ, o_192, a_193, a_194, a_195, a_196, a_197, a_198, a_199, a_200, a_201, a_202, a_203, a_204, a_205, a_206, a_207, a_208, a_209, a_210, r_192_0, r_192_1, r_192_2, r_192_3, r_192_4, r_192_5, r_192_7, r_192_8, r_192_14, r_192_16, r_192_17, r_192_18, r_192_19, r_192_20, r_192_22, r_192_23, r_192_25, r_192_26, zrI, zrL, zrR, ne_eq, true_and, and_true, true_or, or_true, not_true_eq_false, not_false_eq_true, false_and, and_false, forall_const, true_implies, false_implies, implies_true, reduceCtorEq, Int.reduceEq, Int.reduceNe, Int.reduceLT, Int.reduceLE, Int.reduceNeg, Nat.reduceEqDiff, if_true, if_false, reduceIte, Int.reduceMul, Int.reduceAdd, Int.reduceSub]
      refine t_mAt hT mT s0 (by omega) (by omega) ?_
      rw [e8]
      simp only [hT, zrI, zrL, zrR, Shp_wI, Shp_wJ, zR_wI, zR_wJ, zJ_wI, zI_wJ, zobj_wI, zobj_wJ, zarr_wI, zarr_wJ, zS_wI, zS_wJ, o_192, a_193, a_194, a_195, a_196, a_197, a_198, a_199, a_200, a_201, a_202, a_203, a_204, a_205, a_206, a_207, a_208, a_209, a_210, r_192_0, r_192_1, r_192_2, r_192_3, r_192_4, r_192_5, r_192_7, r_192_8, r_192_14, r_192_16, r_192_17, r_192_18, r_192_19, r_192_20, r_192_22, r_192_23, r_192_25, r_192_26, zrI, zrL, zrR, ne_eq, true_and, and_true, true_or, or_true, not_true_eq_false, not_false_eq_true, false_and, and_false, forall_const, true_implies, false_implies, implies_true, reduceCtorEq, Int.reduceEq, Int.reduceNe, Int.reduceLT, Int.reduceLE, Int.reduceNeg, Nat.reduceEqDiff, if_true, if_false, reduceIte, Int.reduceMul, Int.reduceAdd, Int.reduceSub]
      refine ⟨fun w => ?_, fun w => t_mAt hT mT s0 (by omega) (by omega) ?_⟩
      · have := q (j : Int) ⟨by omega, hn, by show ¬ (j : Int) < ga (M s) (j : Int); omega⟩ τ (by rw [Int.toNat_natCast]; exact mT) f1
        unfold mTl at this
        exact this
      · rw [e8]
        have hr2 := hp.rng (j : Int)
        have hn' : ∀ i : Int, 0 ≤ i → i < ((j + 1 : Nat) : Int) → i < ga (M s) i := fun i i0 i1 => by
          by_cases c : i = (j : Int)
          · rw [c]; exact w
          · exact hn i i0 (by omega)
        obtain ⟨r1, r2, r3⟩ := Pt.room (f := ohR (M s)) (n := j + 1) (j := j) (ohR_Pt hp ho hn') (by omega)
        have eo : ohR (M s) (j : Int) = 2 * (ga (M s) (j : Int) - (j : Int)) - 1 := rfl
        simp only [hT, zrI, zrL, zrR, Shp_wI, Shp_wJ, zR_wI, zR_wJ, zJ_wI, zI_wJ, zobj_wI, zobj_wJ, zarr_wI, zarr_wJ, zS_wI, zS_wJ, o_192, a_193, a_194, a_195, a_196, a_197, a_198, a_199, a_200, a_201, a_202, a_203, a_204, a_205, a_206, a_207, a_208, a_209, a_210, r_192_0, r_192_1, r_192_2, r_192_3, r_192_4, r_192_5, r_192_7, r_192_8, r_192_14, r_192_16, r_192_17, r_192_18, r_192_19, r_192_20, r_192_22, r_192_23, r_192_25, r_192_26, zrI, zrL, zrR, ne_eq, true_and, and_true, true_or, or_true, not_true_eq_false, not_false_eq_true, false_and, and_false, forall_const, true_implies, false_implies, implies_true, reduceCtorEq, Int.reduceEq, Int.reduceNe, Int.reduceLT, Int.reduceLE, Int.reduceNeg, Nat.reduceEqDiff, if_true, if_false, reduceIte, Int.reduceMul, Int.reduceAdd, Int.reduceSub]
        refine ⟨by omega, by omega, by omega, t_mPush' hT mT (by omega) (by omega) r1 (fun υ j1 j2 => ⟨by omega, ?_⟩)⟩
        have := ih (j + 1) υ (by omega) hn' (by rw [tbl_snoc]; exact j1) (f1.tr j2)
        rw [Int.natCast_succ] at this
        exact this
  exact k6 401 0 σ (by omega) (fun i i0 i1 => by omega) m Fr.rf
