/-! pushDown, core, peel, quotient, of the reference -/
theorem t_mPushDown {Q : ZQ} {σ : ZM} {t : Nat} {B : BF} (hS : Shp σ) (a : MB σ B) (t0 : 1 ≤ t) (t1 : t ≤ 12) (q : ∀ σ', MB σ' (coB B t) → Fz btf σ σ' → Q zu σ') : WP m_Mod_pushDown 0 [zr 192, zi (t : Int), zu, zu, zu] [] σ (0, 0) Q := by
  have k2 : ∀ (m k : Nat) (τ : ZM) (u3 u4 : PV), k + m = t → MB τ (mxB B t k) → Fz btf σ τ → WP m_Mod_pushDown 2 [zr 192, zi (t : Int), zi (k : Int), u3, u4] [] τ (0, 0) Q := by
    intro m
    induction m with
    | zero =>
      intro k τ u3 u4 hk aT f
      rw [show k = t by omega] at aT
      rw [mxB_all t0] at aT
      exact r_Mod_pushDown_2 ⟨fun _ => q τ aT f, fun c => by omega⟩
    | succ m ih =>
      intro k τ u3 u4 hk aT f
      have hpl := fun i => plcN_iff (T := 1300) (t := t) (r := k) (i := i) t0 (by omega)
      have hp8 := plcN_le (T := 1300) (t := t) (r := k) t0 (by omega)
      have hrl := rcN_le (T := 1300) (t := t) (r := k) t0 (by omega) (by omega) a.2
      have hrc := rcN_eq (T := 1300) (t := t) (r := k) t0 (by omega) (by omega) aT.2
      have k58 : ∀ (g j : Nat) (υ : ZM), j + g = rcN B t k → MB υ (miB B t k j) → Fz btf σ υ → WP m_Mod_pushDown 58 [zr 192, zi (t : Int), zi (k : Int), zi (rcN B t k : Int), zi (j : Int)] [] υ (0, 0) Q := by
        intro g
        induction g with
        | zero =>
          intro j υ hj aU f2
          rw [show j = rcN B t k by omega] at aU
          rw [miB_end] at aU
          have := ih (k + 1) υ (zi (rcN B t k : Int)) (zi (j : Int)) (by omega) aU f2
          rw [Int.natCast_succ] at this
          exact r_Mod_pushDown_58 ⟨fun _ => ⟨by omega, this⟩, fun c => by omega⟩
        | succ g ihg =>
          intro j υ hj aU f2
          have hU := f2.shp hS
          have hjl : j < plcN 1300 t k := by omega
          have hb := (hpl j).mp hjl
          have ej : (t : Int) * (j : Int) = ((t * j : Nat) : Int) := by rw [Int.natCast_mul]
          refine r_Mod_pushDown_58 ?_
          simp only [hU, ej, zrI, zrL, zrR, Shp_wI, Shp_wJ, zR_wI, zR_wJ, zJ_wI, zI_wJ, zobj_wI, zobj_wJ, zarr_wI, zarr_wJ, zS_wI, zS_wJ, o_192, a_193, a_194, a_195, a_196, a_197, a_198, a_199, a_200, a_201, a_202, a_203, a_204, a_205, a_206, a_207, a_208, a_209, a_210, r_192_0, r_192_1, r_192_2, r_192_3, r_192_4, r_192_5, r_192_7, r_192_8, r_192_14, r_192_16, r_192_17, r_192_18, r_192_19, r_192_20, r_192_22, r_192_23, r_192_25, r_192_26, zrI, zrL, zrR, ne_eq, true_and, and_true, true_or, or_true, not_true_eq_false, not_false_eq_true, false_and, and_false, forall_const, true_implies, false_implies, implies_true, reduceCtorEq, Int.reduceEq, Int.reduceNe, Int.reduceLT, Int.reduceLE, Int.reduceNeg, Nat.reduceEqDiff, if_true, if_false, reduceIte, Int.reduceMul, Int.reduceAdd, Int.reduceSub]
          refine ⟨fun c => by omega, fun _ => ⟨by omega, by omega, by omega, by omega, ?_⟩⟩
          have aN := aU.up (b := true) (x := 1) rfl hb
          rw [miB_up (by omega)] at aN
          have := ihg (j + 1) _ (by omega) aN (f2.tr (Fz.wI (Or.inl rfl)))
          rw [Int.natCast_succ, Int.natCast_add] at this
          exact this
      have k12 : ∀ (g i : Nat) (υ : ZM), i + g = plcN 1300 t k → MB υ (emI (mxB B t k) t k i) → Fz btf σ υ → WP m_Mod_pushDown 12 [zr 192, zi (t : Int), zi (k : Int), zi (cB (runB (mxB B t k) t k) i : Int), zi ((k : Int) + ((t * i : Nat) : Int))] [] υ (0, 0) Q := by
        intro g
        induction g with
        | zero =>
          intro i υ hi aU f2
          have hge : 1300 ≤ k + t * i := by
            rcases Nat.lt_or_ge (k + t * i) 1300 with z | z
            · have := (hpl i).mpr z; omega
            · exact z
          rw [show i = plcN 1300 t k by omega] at aU
          rw [emI_end (T := 1300) t0 (by omega) (by omega) aT.2, mxB_em] at aU
          rw [show cB (runB (mxB B t k) t k) i = rcN B t k by rw [show i = plcN 1300 t k by omega, hrc, mxB_rc (by omega)]]
          exact r_Mod_pushDown_12 ⟨fun _ => k58 (rcN B t k) 0 υ (by omega) aU f2, fun c => by omega⟩
        | succ g ihg =>
          intro i υ hi aU f2
          have hU := f2.shp hS
          have hb := (hpl i).mp (by omega)
          have hc := cB_le (runB (mxB B t k) t k) i
          have ec : cB (runB (mxB B t k) t k) (i + 1) = cB (runB (mxB B t k) t k) i + (if runB (mxB B t k) t k i then 1 else 0) := rfl
          have hv : zI υ 206 ((k : Int) + ((t * i : Nat) : Int)) = if runB (mxB B t k) t k i then 1 else 0 := by
            have := aU.1 (k + t * i) hb
            rw [Int.natCast_add] at this
            have e1 : emI (mxB B t k) t k i (k + t * i) = runB (mxB B t k) t k i := by
              unfold emI
              rw [if_neg (fun w => by rw [(dm (t := t) (r := k) (i := i) (by omega)).2] at w; omega)]
              rfl
            rw [this, e1]
          have aN := aU.up (b := false) (x := 0) rfl hb
          rw [emI_up (by omega), Int.natCast_add] at aN
          have ihi := ihg (i + 1) _ (by omega) aN (f2.tr (Fz.wI (Or.inl rfl)))
          rw [ec, show (k : Int) + ((t * (i + 1) : Nat) : Int) = (k : Int) + ((t * i : Nat) : Int) + (t : Int) by rw [Nat.mul_succ]; omega] at ihi
          refine r_Mod_pushDown_12 ?_
          simp only [hU, hv, zrI, zrL, zrR, Shp_wI, Shp_wJ, zR_wI, zR_wJ, zJ_wI, zI_wJ, zobj_wI, zobj_wJ, zarr_wI, zarr_wJ, zS_wI, zS_wJ, o_192, a_193, a_194, a_195, a_196, a_197, a_198, a_199, a_200, a_201, a_202, a_203, a_204, a_205, a_206, a_207, a_208, a_209, a_210, r_192_0, r_192_1, r_192_2, r_192_3, r_192_4, r_192_5, r_192_7, r_192_8, r_192_14, r_192_16, r_192_17, r_192_18, r_192_19, r_192_20, r_192_22, r_192_23, r_192_25, r_192_26, zrI, zrL, zrR, ne_eq, true_and, and_true, true_or, or_true, not_true_eq_false, not_false_eq_true, false_and, and_false, forall_const, true_implies, false_implies, implies_true, reduceCtorEq, Int.reduceEq, Int.reduceNe, Int.reduceLT, Int.reduceLE, Int.reduceNeg, Nat.reduceEqDiff, if_true, if_false, reduceIte, Int.reduceMul, Int.reduceAdd, Int.reduceSub]
          by_cases hbi : runB (mxB B t k) t k i = true
          · rw [if_pos hbi] at ihi
            rw [if_pos hbi]
            simp only [zrI, zrL, zrR, ne_eq, true_and, and_true, true_or, or_true, not_true_eq_false, not_false_eq_true, false_and, and_false, forall_const, true_implies, false_implies, implies_true, reduceCtorEq, Int.reduceEq, Int.reduceNe, Int.reduceLT, Int.reduceLE, Int.reduceNeg, Nat.reduceEqDiff, if_true, if_false, reduceIte, Int.reduceMul, Int.reduceAdd, Int.reduceSub]
            exact ⟨fun c => by omega, fun _ => ⟨by omega, by omega, by omega, by omega, ihi⟩⟩
          · rw [if_neg hbi] at ihi
            rw [if_neg hbi]
            simp only [zrI, zrL, zrR, ne_eq, true_and, and_true, true_or, or_true, not_true_eq_false, not_false_eq_true, false_and, and_false, forall_const, true_implies, false_implies, implies_true, reduceCtorEq, Int.reduceEq, Int.reduceNe, Int.reduceLT, Int.reduceLE, Int.reduceNeg, Nat.reduceEqDiff, if_true, if_false, reduceIte, Int.reduceMul, Int.reduceAdd, Int.reduceSub]
            exact ⟨fun c => by omega, fun _ => ⟨by omega, by omega, by omega, by omega, ihi⟩⟩
      refine r_Mod_pushDown_2 ⟨fun c => by omega, fun _ => ?_⟩
      have := k12 (plcN 1300 t k) 0 τ (by omega) (by
        rw [show emI (mxB B t k) t k 0 = mxB B t k by funext x; unfold emI; rw [if_neg (fun w => absurd w.2 (Nat.not_lt_zero _))]]
        exact aT) f
      rw [show (k : Int) + ((t * 0 : Nat) : Int) = (k : Int) by simp] at this
      exact this
  refine r_Mod_pushDown_0 ?_
  refine k2 t 0 σ zu zu (by omega) ?_ Fz.rf
  rw [show mxB B t 0 = B by funext x; unfold mxB; rw [if_neg (by omega)]]
  exact a
theorem bdS_far {l : List Int} {t : Nat} (hp : Pt l) (t0 : 2 ≤ t) (t1 : t ≤ 12) : ∀ p, 812 ≤ p → bdS l t p = false := fun p h => by
  have hW := widN_bd (n := l.length) (t := t) (by omega)
  have hl := hp.len
  have h4 := hp.2.1
  exact stB_far hp _ (Nat.le_refl _) p (by omega)
abbrev mbf (a : Nat) (j : Int) : Prop := maf a j ∨ btf a j
theorem m_core {Q : ZQ} {σ : ZM} {N : List (Int × List Int)} {S : Int → List Int} {t s d : Int} (h : MI σ S N) (hp : PtS S) (ht : -2147483648 ≤ t ∧ t ≤ 2147483647) (hs : -2147483648 ≤ s ∧ s ≤ 2147483647) (hd : -2147483648 ≤ d ∧ d ≤ 2147483647) (q0 : (t < 2 ∨ 12 < t ∨ s < 0 ∨ 7 < s ∨ d < 0 ∨ 7 < d) → Q (zi (-2)) σ)
    (q1 : 2 ≤ t → t ≤ 12 → 0 ≤ s → s ≤ 7 → 0 ≤ d → d ≤ 7 → ∀ σ', MI σ' (upS S d (rdL (coB (bdS (S s) t.toNat) t.toNat) 812)) (actN S N d) → Fz mbf σ σ' → Q (zi (rdL (coB (bdS (S s) t.toNat) t.toNat) 812).sum) σ') : WP m_Mod_core 0 [zr 192, zi t, zi s, zi d] [] σ (0, 0) Q := by
  obtain ⟨hS, hN, M, m, hM⟩ := h
  refine r_Mod_core_0 (t_mWidth ht (fun t0 t1 => ?_) (fun c => by simp only [zrI, zrL, zrR, ne_eq, true_and, and_true, true_or, or_true, not_true_eq_false, not_false_eq_true, false_and, and_false, forall_const, true_implies, false_implies, implies_true, reduceCtorEq, Int.reduceEq, Int.reduceNe, Int.reduceLT, Int.reduceLE, Int.reduceNeg, Nat.reduceEqDiff, if_true, if_false, reduceIte, Int.reduceMul, Int.reduceAdd, Int.reduceSub]; exact q0 (by omega)))
  simp only [hS, zrI, zrL, zrR, Shp_wI, Shp_wJ, zR_wI, zR_wJ, zJ_wI, zI_wJ, zobj_wI, zobj_wJ, zarr_wI, zarr_wJ, zS_wI, zS_wJ, o_192, a_193, a_194, a_195, a_196, a_197, a_198, a_199, a_200, a_201, a_202, a_203, a_204, a_205, a_206, a_207, a_208, a_209, a_210, r_192_0, r_192_1, r_192_2, r_192_3, r_192_4, r_192_5, r_192_7, r_192_8, r_192_14, r_192_16, r_192_17, r_192_18, r_192_19, r_192_20, r_192_22, r_192_23, r_192_25, r_192_26, zrI, zrL, zrR, ne_eq, true_and, and_true, true_or, or_true, not_true_eq_false, not_false_eq_true, false_and, and_false, forall_const, true_implies, false_implies, implies_true, reduceCtorEq, Int.reduceEq, Int.reduceNe, Int.reduceLT, Int.reduceLE, Int.reduceNeg, Nat.reduceEqDiff, if_true, if_false, reduceIte, Int.reduceMul, Int.reduceAdd, Int.reduceSub]
  refine t_mSheet hs (fun s0 s1 => ?_) (fun c => by simp only [zrI, zrL, zrR, ne_eq, true_and, and_true, true_or, or_true, not_true_eq_false, not_false_eq_true, false_and, and_false, forall_const, true_implies, false_implies, implies_true, reduceCtorEq, Int.reduceEq, Int.reduceNe, Int.reduceLT, Int.reduceLE, Int.reduceNeg, Nat.reduceEqDiff, if_true, if_false, reduceIte, Int.reduceMul, Int.reduceAdd, Int.reduceSub]; exact q0 (by omega))
  simp only [hS, zrI, zrL, zrR, Shp_wI, Shp_wJ, zR_wI, zR_wJ, zJ_wI, zI_wJ, zobj_wI, zobj_wJ, zarr_wI, zarr_wJ, zS_wI, zS_wJ, o_192, a_193, a_194, a_195, a_196, a_197, a_198, a_199, a_200, a_201, a_202, a_203, a_204, a_205, a_206, a_207, a_208, a_209, a_210, r_192_0, r_192_1, r_192_2, r_192_3, r_192_4, r_192_5, r_192_7, r_192_8, r_192_14, r_192_16, r_192_17, r_192_18, r_192_19, r_192_20, r_192_22, r_192_23, r_192_25, r_192_26, zrI, zrL, zrR, ne_eq, true_and, and_true, true_or, or_true, not_true_eq_false, not_false_eq_true, false_and, and_false, forall_const, true_implies, false_implies, implies_true, reduceCtorEq, Int.reduceEq, Int.reduceNe, Int.reduceLT, Int.reduceLE, Int.reduceNeg, Nat.reduceEqDiff, if_true, if_false, reduceIte, Int.reduceMul, Int.reduceAdd, Int.reduceSub]
  refine t_mSheet hd (fun d0 d1 => ?_) (fun c => by simp only [zrI, zrL, zrR, ne_eq, true_and, and_true, true_or, or_true, not_true_eq_false, not_false_eq_true, false_and, and_false, forall_const, true_implies, false_implies, implies_true, reduceCtorEq, Int.reduceEq, Int.reduceNe, Int.reduceLT, Int.reduceLE, Int.reduceNeg, Nat.reduceEqDiff, if_true, if_false, reduceIte, Int.reduceMul, Int.reduceAdd, Int.reduceSub]; exact q0 (by omega))
  have eM := hM s s0 s1
  have hps := hp s s0 s1
  have et : t = (t.toNat : Int) := by omega
  generalize t.toNat = tn at *
  subst et
  have h4 := hps.2.1
  have far := bdS_far hps (t := tn) (by omega) (by omega)
  have he := bdS_e hps (t := tn) (by omega) (by omega)
  have he3 := coB_e (T := 812) (t := tn) (by omega) (by omega) (by omega) far
  have cfar := coB_far (T := 812) (t := tn) (by omega) (by omega) (by omega) far
  simp only [hS, zrI, zrL, zrR, Shp_wI, Shp_wJ, zR_wI, zR_wJ, zJ_wI, zI_wJ, zobj_wI, zobj_wJ, zarr_wI, zarr_wJ, zS_wI, zS_wJ, o_192, a_193, a_194, a_195, a_196, a_197, a_198, a_199, a_200, a_201, a_202, a_203, a_204, a_205, a_206, a_207, a_208, a_209, a_210, r_192_0, r_192_1, r_192_2, r_192_3, r_192_4, r_192_5, r_192_7, r_192_8, r_192_14, r_192_16, r_192_17, r_192_18, r_192_19, r_192_20, r_192_22, r_192_23, r_192_25, r_192_26, zrI, zrL, zrR, ne_eq, true_and, and_true, true_or, or_true, not_true_eq_false, not_false_eq_true, false_and, and_false, forall_const, true_implies, false_implies, implies_true, reduceCtorEq, Int.reduceEq, Int.reduceNe, Int.reduceLT, Int.reduceLE, Int.reduceNeg, Nat.reduceEqDiff, if_true, if_false, reduceIte, Int.reduceMul, Int.reduceAdd, Int.reduceSub]
  refine t_toBeads (t := tn) hS m s0 (by omega) (by rw [eM]; exact hps) (by omega) (by omega) (fun τ a1 _ f1 => ?_)
  rw [eM] at a1
  have hT := f1.shp hS
  simp only [hT, zrI, zrL, zrR, Shp_wI, Shp_wJ, zR_wI, zR_wJ, zJ_wI, zI_wJ, zobj_wI, zobj_wJ, zarr_wI, zarr_wJ, zS_wI, zS_wJ, o_192, a_193, a_194, a_195, a_196, a_197, a_198, a_199, a_200, a_201, a_202, a_203, a_204, a_205, a_206, a_207, a_208, a_209, a_210, r_192_0, r_192_1, r_192_2, r_192_3, r_192_4, r_192_5, r_192_7, r_192_8, r_192_14, r_192_16, r_192_17, r_192_18, r_192_19, r_192_20, r_192_22, r_192_23, r_192_25, r_192_26, zrI, zrL, zrR, ne_eq, true_and, and_true, true_or, or_true, not_true_eq_false, not_false_eq_true, false_and, and_false, forall_const, true_implies, false_implies, implies_true, reduceCtorEq, Int.reduceEq, Int.reduceNe, Int.reduceLT, Int.reduceLE, Int.reduceNeg, Nat.reduceEqDiff, if_true, if_false, reduceIte, Int.reduceMul, Int.reduceAdd, Int.reduceSub]
  refine t_mPushDown hT a1 (by omega) (by omega) (fun υ a2 f2 => ?_)
  have hU := f2.shp hT
  have f12 := f1.tr f2
  simp only [hU, zrI, zrL, zrR, Shp_wI, Shp_wJ, zR_wI, zR_wJ, zJ_wI, zI_wJ, zobj_wI, zobj_wJ, zarr_wI, zarr_wJ, zS_wI, zS_wJ, o_192, a_193, a_194, a_195, a_196, a_197, a_198, a_199, a_200, a_201, a_202, a_203, a_204, a_205, a_206, a_207, a_208, a_209, a_210, r_192_0, r_192_1, r_192_2, r_192_3, r_192_4, r_192_5, r_192_7, r_192_8, r_192_14, r_192_16, r_192_17, r_192_18, r_192_19, r_192_20, r_192_22, r_192_23, r_192_25, r_192_26, zrI, zrL, zrR, ne_eq, true_and, and_true, true_or, or_true, not_true_eq_false, not_false_eq_true, false_and, and_false, forall_const, true_implies, false_implies, implies_true, reduceCtorEq, Int.reduceEq, Int.reduceNe, Int.reduceLT, Int.reduceLE, Int.reduceNeg, Nat.reduceEqDiff, if_true, if_false, reduceIte, Int.reduceMul, Int.reduceAdd, Int.reduceSub]
  refine t_fromBeads hU (f12.ms (fun j => by omega) (fun j => by omega) m) a2 (by rw [eB_far 1300 (by omega) cfar]; omega) (fun ω w1 f3 => ?_)
  rw [rdL_far 1300 (by omega) cfar] at w1
  have hO := f3.shp hU
  simp only [hO, zrI, zrL, zrR, Shp_wI, Shp_wJ, zR_wI, zR_wJ, zJ_wI, zI_wJ, zobj_wI, zobj_wJ, zarr_wI, zarr_wJ, zS_wI, zS_wJ, o_192, a_193, a_194, a_195, a_196, a_197, a_198, a_199, a_200, a_201, a_202, a_203, a_204, a_205, a_206, a_207, a_208, a_209, a_210, r_192_0, r_192_1, r_192_2, r_192_3, r_192_4, r_192_5, r_192_7, r_192_8, r_192_14, r_192_16, r_192_17, r_192_18, r_192_19, r_192_20, r_192_22, r_192_23, r_192_25, r_192_26, zrI, zrL, zrR, ne_eq, true_and, and_true, true_or, or_true, not_true_eq_false, not_false_eq_true, false_and, and_false, forall_const, true_implies, false_implies, implies_true, reduceCtorEq, Int.reduceEq, Int.reduceNe, Int.reduceLT, Int.reduceLE, Int.reduceNeg, Nat.reduceEqDiff, if_true, if_false, reduceIte, Int.reduceMul, Int.reduceAdd, Int.reduceSub]
  have f3z : Fz mbf υ ω := f3.z (fun a j w => by omega)
  have f123 : Fz mbf σ ω := (f12.mono (fun a j w => Or.inr w)).tr f3z
  have hNO : MN ω N := (f3.z (P' := mfr') (fun a j w => by omega)).mn (by omega) (fun j => by omega) (fun j => by omega) (fun j => by omega) (f12.mn (by omega) (fun j => by omega) (fun j => by omega) (fun j => by omega) hN)
  refine t_mSet (S := S) hO hNO w1 (fun u u0 u1 => by unfold upS; rw [if_neg (by omega)]; exact hM u u0 u1) (upS_same) d0 d1 (fun ξ j1 j2 => ?_)
  obtain ⟨hX, hNX, M2, m2, hM2⟩ := j1
  have e2 := hM2 d d0 d1
  rw [upS_same] at e2
  simp only [hX, zrI, zrL, zrR, Shp_wI, Shp_wJ, zR_wI, zR_wJ, zJ_wI, zI_wJ, zobj_wI, zobj_wJ, zarr_wI, zarr_wJ, zS_wI, zS_wJ, o_192, a_193, a_194, a_195, a_196, a_197, a_198, a_199, a_200, a_201, a_202, a_203, a_204, a_205, a_206, a_207, a_208, a_209, a_210, r_192_0, r_192_1, r_192_2, r_192_3, r_192_4, r_192_5, r_192_7, r_192_8, r_192_14, r_192_16, r_192_17, r_192_18, r_192_19, r_192_20, r_192_22, r_192_23, r_192_25, r_192_26, zrI, zrL, zrR, ne_eq, true_and, and_true, true_or, or_true, not_true_eq_false, not_false_eq_true, false_and, and_false, forall_const, true_implies, false_implies, implies_true, reduceCtorEq, Int.reduceEq, Int.reduceNe, Int.reduceLT, Int.reduceLE, Int.reduceNeg, Nat.reduceEqDiff, if_true, if_false, reduceIte, Int.reduceMul, Int.reduceAdd, Int.reduceSub]
  refine t_mSize hX m2 d0 (by omega) (by rw [e2]; exact rdL_Pt (by omega)) ?_
  rw [e2]
  simp only [zrI, zrL, zrR, ne_eq, true_and, and_true, true_or, or_true, not_true_eq_false, not_false_eq_true, false_and, and_false, forall_const, true_implies, false_implies, implies_true, reduceCtorEq, Int.reduceEq, Int.reduceNe, Int.reduceLT, Int.reduceLE, Int.reduceNeg, Nat.reduceEqDiff, if_true, if_false, reduceIte, Int.reduceMul, Int.reduceAdd, Int.reduceSub]
  exact q1 (by omega) (by omega) s0 s1 d0 d1 ξ ⟨hX, hNX, M2, m2, hM2⟩ (f123.tr (j2.mono (fun a j w => Or.inl w)))
theorem m_peel {Q : ZQ} {σ : ZM} {N : List (Int × List Int)} {S : Int → List Int} {t s : Int} (h : MI σ S N) (hp : PtS S) (ht : -2147483648 ≤ t ∧ t ≤ 2147483647) (hs : -2147483648 ≤ s ∧ s ≤ 2147483647) (q0 : (t < 2 ∨ 12 < t ∨ s < 0 ∨ 7 < s) → Q (zi (-2)) σ)
    (q2 : 2 ≤ t → t ≤ 12 → 0 ≤ s → s ≤ 7 → NoB (bdS (S s) t.toNat) t.toNat → ∀ σ', MI σ' S N → Fz mbf σ σ' → Q (zi 0) σ')
    (q1 : 2 ≤ t → t ≤ 12 → 0 ≤ s → s ≤ 7 → ∀ p, p < 812 → PkB (bdS (S s) t.toNat) t.toNat p → ∀ σ', MI σ' (upS S s (rdL (dnB (bdS (S s) t.toNat) t.toNat p) 812)) (actN S N s) → Fz mbf σ σ' → Q (zi 1) σ') : WP m_Mod_peel 0 [zr 192, zi t, zi s, zu] [] σ (0, 0) Q := by
  obtain ⟨hS, hN, M, m, hM⟩ := h
  refine r_Mod_peel_0 (t_mWidth ht (fun t0 t1 => ?_) (fun c => by simp only [zrI, zrL, zrR, ne_eq, true_and, and_true, true_or, or_true, not_true_eq_false, not_false_eq_true, false_and, and_false, forall_const, true_implies, false_implies, implies_true, reduceCtorEq, Int.reduceEq, Int.reduceNe, Int.reduceLT, Int.reduceLE, Int.reduceNeg, Nat.reduceEqDiff, if_true, if_false, reduceIte, Int.reduceMul, Int.reduceAdd, Int.reduceSub]; exact q0 (by omega)))
  simp only [hS, zrI, zrL, zrR, Shp_wI, Shp_wJ, zR_wI, zR_wJ, zJ_wI, zI_wJ, zobj_wI, zobj_wJ, zarr_wI, zarr_wJ, zS_wI, zS_wJ, o_192, a_193, a_194, a_195, a_196, a_197, a_198, a_199, a_200, a_201, a_202, a_203, a_204, a_205, a_206, a_207, a_208, a_209, a_210, r_192_0, r_192_1, r_192_2, r_192_3, r_192_4, r_192_5, r_192_7, r_192_8, r_192_14, r_192_16, r_192_17, r_192_18, r_192_19, r_192_20, r_192_22, r_192_23, r_192_25, r_192_26, zrI, zrL, zrR, ne_eq, true_and, and_true, true_or, or_true, not_true_eq_false, not_false_eq_true, false_and, and_false, forall_const, true_implies, false_implies, implies_true, reduceCtorEq, Int.reduceEq, Int.reduceNe, Int.reduceLT, Int.reduceLE, Int.reduceNeg, Nat.reduceEqDiff, if_true, if_false, reduceIte, Int.reduceMul, Int.reduceAdd, Int.reduceSub]
  refine t_mSheet hs (fun s0 s1 => ?_) (fun c => by simp only [zrI, zrL, zrR, ne_eq, true_and, and_true, true_or, or_true, not_true_eq_false, not_false_eq_true, false_and, and_false, forall_const, true_implies, false_implies, implies_true, reduceCtorEq, Int.reduceEq, Int.reduceNe, Int.reduceLT, Int.reduceLE, Int.reduceNeg, Nat.reduceEqDiff, if_true, if_false, reduceIte, Int.reduceMul, Int.reduceAdd, Int.reduceSub]; exact q0 (by omega))
  have eM := hM s s0 s1
  have hps := hp s s0 s1
  have et : t = (t.toNat : Int) := by omega
  generalize t.toNat = tn at *
  subst et
  have h4 := hps.2.1
  have far := bdS_far hps (t := tn) (by omega) (by omega)
  have he := bdS_e hps (t := tn) (by omega) (by omega)
  simp only [hS, zrI, zrL, zrR, Shp_wI, Shp_wJ, zR_wI, zR_wJ, zJ_wI, zI_wJ, zobj_wI, zobj_wJ, zarr_wI, zarr_wJ, zS_wI, zS_wJ, o_192, a_193, a_194, a_195, a_196, a_197, a_198, a_199, a_200, a_201, a_202, a_203, a_204, a_205, a_206, a_207, a_208, a_209, a_210, r_192_0, r_192_1, r_192_2, r_192_3, r_192_4, r_192_5, r_192_7, r_192_8, r_192_14, r_192_16, r_192_17, r_192_18, r_192_19, r_192_20, r_192_22, r_192_23, r_192_25, r_192_26, zrI, zrL, zrR, ne_eq, true_and, and_true, true_or, or_true, not_true_eq_false, not_false_eq_true, false_and, and_false, forall_const, true_implies, false_implies, implies_true, reduceCtorEq, Int.reduceEq, Int.reduceNe, Int.reduceLT, Int.reduceLE, Int.reduceNeg, Nat.reduceEqDiff, if_true, if_false, reduceIte, Int.reduceMul, Int.reduceAdd, Int.reduceSub]
  refine t_toBeads (t := tn) hS m s0 (by omega) (by rw [eM]; exact hps) (by omega) (by omega) (fun τ a1 _ f1 => ?_)
  rw [eM] at a1
  have hT := f1.shp hS
  have mT := f1.ms (fun j => by omega) (fun j => by omega) m
  have hNT := f1.mn (by omega) (fun j => by omega) (fun j => by omega) (fun j => by omega) hN
  generalize hB : bdS (S s) tn = B at *
  have fin0 : NoB B tn → Q (zi 0) τ := fun hn => q2 (by omega) (by omega) s0 s1 hn τ ⟨hT, hNT, M, mT, hM⟩ (f1.mono (fun a j w => Or.inr w))
  have k28 : ∀ (g : Nat) (x : Int), x + 1 = g → g ≤ 1300 → (∀ y, g ≤ y → tn ≤ y → ¬ (B y = true ∧ B (y - tn) = false)) → WP m_Mod_peel 28 [zr 192, zi (tn : Int), zi s, zi x] [] τ (0, 0) Q := by
    intro g
    induction g with
    | zero =>
      intro x hx hg hn
      exact r_Mod_peel_28 ⟨fun _ => ⟨fun c => by omega, fun _ => fin0 (fun y hy => hn y (by omega) hy)⟩, fun c => by omega⟩
    | succ g ih =>
      intro x hx hg hn
      have ex : x = (g : Int) := by omega
      subst ex
      have v := a1.1 g (by omega)
      refine r_Mod_peel_28 ?_
      simp only [hT, v, zrI, zrL, zrR, Shp_wI, Shp_wJ, zR_wI, zR_wJ, zJ_wI, zI_wJ, zobj_wI, zobj_wJ, zarr_wI, zarr_wJ, zS_wI, zS_wJ, o_192, a_193, a_194, a_195, a_196, a_197, a_198, a_199, a_200, a_201, a_202, a_203, a_204, a_205, a_206, a_207, a_208, a_209, a_210, r_192_0, r_192_1, r_192_2, r_192_3, r_192_4, r_192_5, r_192_7, r_192_8, r_192_14, r_192_16, r_192_17, r_192_18, r_192_19, r_192_20, r_192_22, r_192_23, r_192_25, r_192_26, zrI, zrL, zrR, ne_eq, true_and, and_true, true_or, or_true, not_true_eq_false, not_false_eq_true, false_and, and_false, forall_const, true_implies, false_implies, implies_true, reduceCtorEq, Int.reduceEq, Int.reduceNe, Int.reduceLT, Int.reduceLE, Int.reduceNeg, Nat.reduceEqDiff, if_true, if_false, reduceIte, Int.reduceMul, Int.reduceAdd, Int.reduceSub]
      refine ⟨fun c => ⟨fun c2 => by omega, fun _ => fin0 (fun y hy => hn y (by omega) hy)⟩, fun c => ?_⟩
      have e2 : (g : Int) - (tn : Int) = ((g - tn : Nat) : Int) := by omega
      have v2 := a1.1 (g - tn) (by omega)
      by_cases hb : B g = true
      · by_cases hb2 : B (g - tn) = true
        · simp only [e2, v2, if_pos hb, if_pos hb2, zrI, zrL, zrR, ne_eq, true_and, and_true, true_or, or_true, not_true_eq_false, not_false_eq_true, false_and, and_false, forall_const, true_implies, false_implies, implies_true, reduceCtorEq, Int.reduceEq, Int.reduceNe, Int.reduceLT, Int.reduceLE, Int.reduceNeg, Nat.reduceEqDiff, if_true, if_false, reduceIte, Int.reduceMul, Int.reduceAdd, Int.reduceSub]
          refine ⟨by omega, by omega, by omega, by omega, ih _ (by omega) (by omega) (fun y hy ht w => ?_)⟩
          by_cases e : y = g
          · rw [e, hb2] at w
            exact absurd w.2 (by simp)
          · exact hn y (by omega) ht w
        · have hb2' : B (g - tn) = false := by simpa using hb2
          have hg8 : g < 812 := by
            rcases Nat.lt_or_ge g 812 with z | z
            · exact z
            · rw [far g z] at hb; exact absurd hb (by simp)
          have pk : PkB B tn g := ⟨by omega, hb, hb2', fun y hy w => hn y (by omega) (by omega) w⟩
          have aN := (a1.up (b := false) (x := 0) rfl (show g < 1300 by omega)).up (b := true) (x := 1) rfl (show g - tn < 1300 by omega)
          have dfar : ∀ p, 812 ≤ p → dnB B tn g p = false := fun p hp => by
            unfold dnB upB
            rw [if_neg (by omega), if_neg (by omega)]
            exact far p hp
          have he3 := dnB_e (T := 812) (t := tn) (by omega) hg8 pk
          have fN : Fz btf τ (wI (wI τ 206 (g : Int) 0) 206 ((g - tn : Nat) : Int) 1) := (Fz.wI (Or.inl rfl)).tr (Fz.wI (Or.inl rfl))
          simp only [e2, v2, if_pos hb, if_neg hb2, zrI, zrL, zrR, ne_eq, true_and, and_true, true_or, or_true, not_true_eq_false, not_false_eq_true, false_and, and_false, forall_const, true_implies, false_implies, implies_true, reduceCtorEq, Int.reduceEq, Int.reduceNe, Int.reduceLT, Int.reduceLE, Int.reduceNeg, Nat.reduceEqDiff, if_true, if_false, reduceIte, Int.reduceMul, Int.reduceAdd, Int.reduceSub]
          refine ⟨by omega, by omega, by omega, fun _ => ⟨by omega, by omega, by omega, ?_⟩, fun c => by omega⟩
          refine t_fromBeads (fN.shp hT) (fN.ms (fun j => by omega) (fun j => by omega) mT) (show MB _ (dnB B tn g) from aN) (by rw [eB_far 1300 (by omega) dfar]; omega) (fun ω w1 f3 => ?_)
          rw [rdL_far 1300 (by omega) dfar] at w1
          have hO := f3.shp (fN.shp hT)
          have f3z : Fz mbf _ ω := f3.z (fun a j w => by omega)
          have f123 : Fz mbf σ ω := ((f1.tr fN).mono (fun a j w => Or.inr w)).tr f3z
          have hNO : MN ω N := (f3.z (P' := mfr') (fun a j w => by omega)).mn (by omega) (fun j => by omega) (fun j => by omega) (fun j => by omega) (fN.mn (by omega) (fun j => by omega) (fun j => by omega) (fun j => by omega) hNT)
          simp only [hO, zrI, zrL, zrR, Shp_wI, Shp_wJ, zR_wI, zR_wJ, zJ_wI, zI_wJ, zobj_wI, zobj_wJ, zarr_wI, zarr_wJ, zS_wI, zS_wJ, o_192, a_193, a_194, a_195, a_196, a_197, a_198, a_199, a_200, a_201, a_202, a_203, a_204, a_205, a_206, a_207, a_208, a_209, a_210, r_192_0, r_192_1, r_192_2, r_192_3, r_192_4, r_192_5, r_192_7, r_192_8, r_192_14, r_192_16, r_192_17, r_192_18, r_192_19, r_192_20, r_192_22, r_192_23, r_192_25, r_192_26, zrI, zrL, zrR, ne_eq, true_and, and_true, true_or, or_true, not_true_eq_false, not_false_eq_true, false_and, and_false, forall_const, true_implies, false_implies, implies_true, reduceCtorEq, Int.reduceEq, Int.reduceNe, Int.reduceLT, Int.reduceLE, Int.reduceNeg, Nat.reduceEqDiff, if_true, if_false, reduceIte, Int.reduceMul, Int.reduceAdd, Int.reduceSub]
          refine t_mSet (S := S) hO hNO w1 (fun u u0 u1 => by unfold upS; rw [if_neg (by omega)]; exact hM u u0 u1) (upS_same) s0 s1 (fun ξ j1 j2 => ?_)
          exact q1 (by omega) (by omega) s0 s1 g hg8 pk ξ j1 (f123.tr (j2.mono (fun a j w => Or.inl w)))
      · simp only [if_neg hb, zrI, zrL, zrR, ne_eq, true_and, and_true, true_or, or_true, not_true_eq_false, not_false_eq_true, false_and, and_false, forall_const, true_implies, false_implies, implies_true, reduceCtorEq, Int.reduceEq, Int.reduceNe, Int.reduceLT, Int.reduceLE, Int.reduceNeg, Nat.reduceEqDiff, if_true, if_false, reduceIte, Int.reduceMul, Int.reduceAdd, Int.reduceSub]
        refine ⟨by omega, by omega, ih _ (by omega) (by omega) (fun y hy ht w => ?_)⟩
        by_cases e : y = g
        · rw [e] at w
          exact hb w.1
        · exact hn y (by omega) ht w
  refine k28 1300 1299 (by omega) (by omega) (fun y hy _ w => ?_)
  rw [far y (by omega)] at w
  exact absurd w.1 (by simp)
theorem m_quotient {Q : ZQ} {σ : ZM} {N : List (Int × List Int)} {S : Int → List Int} {t r s d : Int} (h : MI σ S N) (hp : PtS S) (ht : -2147483648 ≤ t ∧ t ≤ 2147483647) (hr : -2147483648 ≤ r ∧ r ≤ 2147483647) (hs : -2147483648 ≤ s ∧ s ≤ 2147483647) (hd : -2147483648 ≤ d ∧ d ≤ 2147483647) (q0 : (t < 2 ∨ 12 < t ∨ r < 0 ∨ t ≤ r ∨ s < 0 ∨ 7 < s ∨ d < 0 ∨ 7 < d) → Q (zi (-2)) σ)
    (q1 : 2 ≤ t → t ≤ 12 → 0 ≤ r → r < t → 0 ≤ s → s ≤ 7 → 0 ≤ d → d ≤ 7 → ∀ σ', MI σ' (upS S d (rdL (runB (bdS (S s) t.toNat) t.toNat r.toNat) (plcN 812 t.toNat r.toNat))) (actN S N d) → Fz mbf σ σ' → Q (zi (rdL (runB (bdS (S s) t.toNat) t.toNat r.toNat) (plcN 812 t.toNat r.toNat)).sum) σ') : WP m_Mod_quotient 0 [zr 192, zi t, zi r, zi s, zi d, zu, zu, zu] [] σ (0, 0) Q := by
  obtain ⟨hS, hN, M, m, hM⟩ := h
  refine r_Mod_quotient_0 (t_mWidth ht (fun t0 t1 => ?_) (fun c => by simp only [zrI, zrL, zrR, ne_eq, true_and, and_true, true_or, or_true, not_true_eq_false, not_false_eq_true, false_and, and_false, forall_const, true_implies, false_implies, implies_true, reduceCtorEq, Int.reduceEq, Int.reduceNe, Int.reduceLT, Int.reduceLE, Int.reduceNeg, Nat.reduceEqDiff, if_true, if_false, reduceIte, Int.reduceMul, Int.reduceAdd, Int.reduceSub]; exact q0 (by omega)))
  have et : t = (t.toNat : Int) := by omega
  generalize t.toNat = tn at *
  subst et
  simp only [hS, zrI, zrL, zrR, Shp_wI, Shp_wJ, zR_wI, zR_wJ, zJ_wI, zI_wJ, zobj_wI, zobj_wJ, zarr_wI, zarr_wJ, zS_wI, zS_wJ, o_192, a_193, a_194, a_195, a_196, a_197, a_198, a_199, a_200, a_201, a_202, a_203, a_204, a_205, a_206, a_207, a_208, a_209, a_210, r_192_0, r_192_1, r_192_2, r_192_3, r_192_4, r_192_5, r_192_7, r_192_8, r_192_14, r_192_16, r_192_17, r_192_18, r_192_19, r_192_20, r_192_22, r_192_23, r_192_25, r_192_26, zrI, zrL, zrR, ne_eq, true_and, and_true, true_or, or_true, not_true_eq_false, not_false_eq_true, false_and, and_false, forall_const, true_implies, false_implies, implies_true, reduceCtorEq, Int.reduceEq, Int.reduceNe, Int.reduceLT, Int.reduceLE, Int.reduceNeg, Nat.reduceEqDiff, if_true, if_false, reduceIte, Int.reduceMul, Int.reduceAdd, Int.reduceSub]
  refine ⟨by omega, ?_⟩
  rw [show Int64.ofInt ((tn : Int) - 1) = Int64.ofNat (tn - 1) by rw [show (tn : Int) - 1 = ((tn - 1 : Nat) : Int) by omega]; rfl]
  refine t_inN (n := 0) (m := tn - 1) hr (by omega) (by omega) (fun r0 r1 => ?_) (fun c => by simp only [zrI, zrL, zrR, ne_eq, true_and, and_true, true_or, or_true, not_true_eq_false, not_false_eq_true, false_and, and_false, forall_const, true_implies, false_implies, implies_true, reduceCtorEq, Int.reduceEq, Int.reduceNe, Int.reduceLT, Int.reduceLE, Int.reduceNeg, Nat.reduceEqDiff, if_true, if_false, reduceIte, Int.reduceMul, Int.reduceAdd, Int.reduceSub]; exact q0 (by omega))
  have er : r = (r.toNat : Int) := by omega
  generalize r.toNat = rn at *
  subst er
  simp only [hS, zrI, zrL, zrR, Shp_wI, Shp_wJ, zR_wI, zR_wJ, zJ_wI, zI_wJ, zobj_wI, zobj_wJ, zarr_wI, zarr_wJ, zS_wI, zS_wJ, o_192, a_193, a_194, a_195, a_196, a_197, a_198, a_199, a_200, a_201, a_202, a_203, a_204, a_205, a_206, a_207, a_208, a_209, a_210, r_192_0, r_192_1, r_192_2, r_192_3, r_192_4, r_192_5, r_192_7, r_192_8, r_192_14, r_192_16, r_192_17, r_192_18, r_192_19, r_192_20, r_192_22, r_192_23, r_192_25, r_192_26, zrI, zrL, zrR, ne_eq, true_and, and_true, true_or, or_true, not_true_eq_false, not_false_eq_true, false_and, and_false, forall_const, true_implies, false_implies, implies_true, reduceCtorEq, Int.reduceEq, Int.reduceNe, Int.reduceLT, Int.reduceLE, Int.reduceNeg, Nat.reduceEqDiff, if_true, if_false, reduceIte, Int.reduceMul, Int.reduceAdd, Int.reduceSub]
  refine t_mSheet hs (fun s0 s1 => ?_) (fun c => by simp only [zrI, zrL, zrR, ne_eq, true_and, and_true, true_or, or_true, not_true_eq_false, not_false_eq_true, false_and, and_false, forall_const, true_implies, false_implies, implies_true, reduceCtorEq, Int.reduceEq, Int.reduceNe, Int.reduceLT, Int.reduceLE, Int.reduceNeg, Nat.reduceEqDiff, if_true, if_false, reduceIte, Int.reduceMul, Int.reduceAdd, Int.reduceSub]; exact q0 (by omega))
  simp only [hS, zrI, zrL, zrR, Shp_wI, Shp_wJ, zR_wI, zR_wJ, zJ_wI, zI_wJ, zobj_wI, zobj_wJ, zarr_wI, zarr_wJ, zS_wI, zS_wJ, o_192, a_193, a_194, a_195, a_196, a_197, a_198, a_199, a_200, a_201, a_202, a_203, a_204, a_205, a_206, a_207, a_208, a_209, a_210, r_192_0, r_192_1, r_192_2, r_192_3, r_192_4, r_192_5, r_192_7, r_192_8, r_192_14, r_192_16, r_192_17, r_192_18, r_192_19, r_192_20, r_192_22, r_192_23, r_192_25, r_192_26, zrI, zrL, zrR, ne_eq, true_and, and_true, true_or, or_true, not_true_eq_false, not_false_eq_true, false_and, and_false, forall_const, true_implies, false_implies, implies_true, reduceCtorEq, Int.reduceEq, Int.reduceNe, Int.reduceLT, Int.reduceLE, Int.reduceNeg, Nat.reduceEqDiff, if_true, if_false, reduceIte, Int.reduceMul, Int.reduceAdd, Int.reduceSub]
  refine t_mSheet hd (fun d0 d1 => ?_) (fun c => by simp only [zrI, zrL, zrR, ne_eq, true_and, and_true, true_or, or_true, not_true_eq_false, not_false_eq_true, false_and, and_false, forall_const, true_implies, false_implies, implies_true, reduceCtorEq, Int.reduceEq, Int.reduceNe, Int.reduceLT, Int.reduceLE, Int.reduceNeg, Nat.reduceEqDiff, if_true, if_false, reduceIte, Int.reduceMul, Int.reduceAdd, Int.reduceSub]; exact q0 (by omega))
  have eM := hM s s0 s1
  have hps := hp s s0 s1
  have h4 := hps.2.1
  have far := bdS_far hps (t := tn) (by omega) (by omega)
  have he := bdS_e hps (t := tn) (by omega) (by omega)
  have he3 := run_e' (T := 812) (t := tn) (r := rn) (by omega) (by omega) (by omega) (by omega) far
  have hpl := fun i => plcN_iff (T := 1300) (t := tn) (r := rn) (i := i) (by omega) (by omega)
  have hp8 := plcN_le (T := 1300) (t := tn) (r := rn) (by omega) (by omega)
  have hpp : plcN 812 tn rn ≤ plcN 1300 tn rn := by
    unfold plcN
    exact Nat.div_le_div_right (by omega)
  have erd : rdL (runB (bdS (S s) tn) tn rn) (plcN 1300 tn rn) = rdL (runB (bdS (S s) tn) tn rn) (plcN 812 tn rn) := rdL_far _ hpp (run_far (by omega) (by omega) far)
  simp only [hS, zrI, zrL, zrR, Shp_wI, Shp_wJ, zR_wI, zR_wJ, zJ_wI, zI_wJ, zobj_wI, zobj_wJ, zarr_wI, zarr_wJ, zS_wI, zS_wJ, o_192, a_193, a_194, a_195, a_196, a_197, a_198, a_199, a_200, a_201, a_202, a_203, a_204, a_205, a_206, a_207, a_208, a_209, a_210, r_192_0, r_192_1, r_192_2, r_192_3, r_192_4, r_192_5, r_192_7, r_192_8, r_192_14, r_192_16, r_192_17, r_192_18, r_192_19, r_192_20, r_192_22, r_192_23, r_192_25, r_192_26, zrI, zrL, zrR, ne_eq, true_and, and_true, true_or, or_true, not_true_eq_false, not_false_eq_true, false_and, and_false, forall_const, true_implies, false_implies, implies_true, reduceCtorEq, Int.reduceEq, Int.reduceNe, Int.reduceLT, Int.reduceLE, Int.reduceNeg, Nat.reduceEqDiff, if_true, if_false, reduceIte, Int.reduceMul, Int.reduceAdd, Int.reduceSub]
  refine t_toBeads (t := tn) hS m s0 (by omega) (by rw [eM]; exact hps) (by omega) (by omega) (fun τ a1 _ f1 => ?_)
  rw [eM] at a1
  have hT := f1.shp hS
  have mT := f1.ms (fun j => by omega) (fun j => by omega) m
  have hNT := f1.mn (by omega) (fun j => by omega) (fun j => by omega) (fun j => by omega) hN
  generalize hBr : runB (bdS (S s) tn) tn rn = Br at *
  have hPt : Pt (rdL Br (plcN 812 tn rn)) := rdL_Pt (by omega)
  have hat : ∀ i : Nat, i < plcN 1300 tn rn → zI τ 206 ((rn : Int) + ((tn * i : Nat) : Int)) = if Br i then 1 else 0 := fun i hi => by
    have := a1.1 (rn + tn * i) ((hpl i).mp hi)
    rw [Int.natCast_add] at this
    rw [this, ← hBr]
    rfl
  have k111 : ∀ (g : Nat) (acc : List Int) (υ : ZM) (u2 u3 u6 : PV), g ≤ plcN 1300 tn rn → acc ++ rdL Br g = rdL Br (plcN 1300 tn rn) → MS υ (upS M 8 acc) → Fr mfr τ υ → WP m_Mod_quotient 111 [zr 192, zi (tn : Int), u2, u3, zi d, zi ((g - cB Br g : Nat) : Int), u6, zi ((rn : Int) + ((tn * g : Nat) : Int) - (tn : Int))] [] υ (0, 0) Q := by
    intro g
    induction g with
    | zero =>
      intro acc υ u2 u3 u6 hg hacc mU f3
      have e : acc ++ [] = rdL Br (plcN 1300 tn rn) := hacc
      rw [List.append_nil, erd] at e
      rw [e] at mU
      have hU := f3.shp hT
      have f3z : Fz mbf τ υ := f3.z (fun a j w => by omega)
      have f123 : Fz mbf σ υ := (f1.mono (fun a j w => Or.inr w)).tr f3z
      have hNO : MN υ N := (f3.z (P' := mfr') (fun a j w => by omega)).mn (by omega) (fun j => by omega) (fun j => by omega) (fun j => by omega) hNT
      refine r_Mod_quotient_111 ?_
      simp only [hU, zrI, zrL, zrR, Shp_wI, Shp_wJ, zR_wI, zR_wJ, zJ_wI, zI_wJ, zobj_wI, zobj_wJ, zarr_wI, zarr_wJ, zS_wI, zS_wJ, o_192, a_193, a_194, a_195, a_196, a_197, a_198, a_199, a_200, a_201, a_202, a_203, a_204, a_205, a_206, a_207, a_208, a_209, a_210, r_192_0, r_192_1, r_192_2, r_192_3, r_192_4, r_192_5, r_192_7, r_192_8, r_192_14, r_192_16, r_192_17, r_192_18, r_192_19, r_192_20, r_192_22, r_192_23, r_192_25, r_192_26, zrI, zrL, zrR, ne_eq, true_and, and_true, true_or, or_true, not_true_eq_false, not_false_eq_true, false_and, and_false, forall_const, true_implies, false_implies, implies_true, reduceCtorEq, Int.reduceEq, Int.reduceNe, Int.reduceLT, Int.reduceLE, Int.reduceNeg, Nat.reduceEqDiff, if_true, if_false, reduceIte, Int.reduceMul, Int.reduceAdd, Int.reduceSub]
      refine ⟨fun _ => t_mSet (S := S) hU hNO mU (fun u u0 u1 => by unfold upS; rw [if_neg (by omega)]; exact hM u u0 u1) (upS_same) d0 d1 (fun ξ j1 j2 => ?_), fun c => by omega⟩
      obtain ⟨hX, hNX, M2, m2, hM2⟩ := j1
      have e2 := hM2 d d0 d1
      rw [upS_same] at e2
      simp only [hX, zrI, zrL, zrR, Shp_wI, Shp_wJ, zR_wI, zR_wJ, zJ_wI, zI_wJ, zobj_wI, zobj_wJ, zarr_wI, zarr_wJ, zS_wI, zS_wJ, o_192, a_193, a_194, a_195, a_196, a_197, a_198, a_199, a_200, a_201, a_202, a_203, a_204, a_205, a_206, a_207, a_208, a_209, a_210, r_192_0, r_192_1, r_192_2, r_192_3, r_192_4, r_192_5, r_192_7, r_192_8, r_192_14, r_192_16, r_192_17, r_192_18, r_192_19, r_192_20, r_192_22, r_192_23, r_192_25, r_192_26, zrI, zrL, zrR, ne_eq, true_and, and_true, true_or, or_true, not_true_eq_false, not_false_eq_true, false_and, and_false, forall_const, true_implies, false_implies, implies_true, reduceCtorEq, Int.reduceEq, Int.reduceNe, Int.reduceLT, Int.reduceLE, Int.reduceNeg, Nat.reduceEqDiff, if_true, if_false, reduceIte, Int.reduceMul, Int.reduceAdd, Int.reduceSub]
      refine t_mSize hX m2 d0 (by omega) (by rw [e2]; exact hPt) ?_
      rw [e2]
      simp only [zrI, zrL, zrR, ne_eq, true_and, and_true, true_or, or_true, not_true_eq_false, not_false_eq_true, false_and, and_false, forall_const, true_implies, false_implies, implies_true, reduceCtorEq, Int.reduceEq, Int.reduceNe, Int.reduceLT, Int.reduceLE, Int.reduceNeg, Nat.reduceEqDiff, if_true, if_false, reduceIte, Int.reduceMul, Int.reduceAdd, Int.reduceSub]
      exact q1 (by omega) (by omega) (by omega) (by omega) s0 s1 d0 d1 ξ ⟨hX, hNX, M2, m2, hM2⟩ (f123.tr (j2.mono (fun a j w => Or.inl w)))
    | succ g ih =>
      intro acc υ u2 u3 u6 hg hacc mU f3
      have hU := f3.shp hT
      have hb8 := (hpl g).mp (by omega)
      have ex : (rn : Int) + ((tn * (g + 1) : Nat) : Int) - (tn : Int) = (rn : Int) + ((tn * g : Nat) : Int) := by rw [Nat.mul_succ]; omega
      rw [ex]
      have hv : zI υ 206 ((rn : Int) + ((tn * g : Nat) : Int)) = if Br g then 1 else 0 := by rw [(f3.2.2.2 206 (by omega)).1]; exact hat g (by omega)
      have hc := cB_le Br g
      have ec : cB Br (g + 1) = cB Br g + (if Br g then 1 else 0) := rfl
      have er : rdL Br (g + 1) = if Br g = true ∧ cB Br g < g then ((g - cB Br g : Nat) : Int) :: rdL Br g else rdL Br g := rfl
      refine r_Mod_quotient_111 ?_
      simp only [hU, hv, zrI, zrL, zrR, Shp_wI, Shp_wJ, zR_wI, zR_wJ, zJ_wI, zI_wJ, zobj_wI, zobj_wJ, zarr_wI, zarr_wJ, zS_wI, zS_wJ, o_192, a_193, a_194, a_195, a_196, a_197, a_198, a_199, a_200, a_201, a_202, a_203, a_204, a_205, a_206, a_207, a_208, a_209, a_210, r_192_0, r_192_1, r_192_2, r_192_3, r_192_4, r_192_5, r_192_7, r_192_8, r_192_14, r_192_16, r_192_17, r_192_18, r_192_19, r_192_20, r_192_22, r_192_23, r_192_25, r_192_26, zrI, zrL, zrR, ne_eq, true_and, and_true, true_or, or_true, not_true_eq_false, not_false_eq_true, false_and, and_false, forall_const, true_implies, false_implies, implies_true, reduceCtorEq, Int.reduceEq, Int.reduceNe, Int.reduceLT, Int.reduceLE, Int.reduceNeg, Nat.reduceEqDiff, if_true, if_false, reduceIte, Int.reduceMul, Int.reduceAdd, Int.reduceSub]
      rw [ec]
      by_cases hb : Br g = true
      · rw [if_pos hb, if_pos hb]
        simp only [zrI, zrL, zrR, ne_eq, true_and, and_true, true_or, or_true, not_true_eq_false, not_false_eq_true, false_and, and_false, forall_const, true_implies, false_implies, implies_true, reduceCtorEq, Int.reduceEq, Int.reduceNe, Int.reduceLT, Int.reduceLE, Int.reduceNeg, Nat.reduceEqDiff, if_true, if_false, reduceIte, Int.reduceMul, Int.reduceAdd, Int.reduceSub]
        rw [show g + 1 - (cB Br g + 1) = g - cB Br g by omega]
        by_cases h0 : cB Br g < g
        · rw [er, if_pos ⟨hb, h0⟩] at hacc
          have hlen := hPt.len
          have h44 := hPt.2.1
          have hlen2 : (rdL Br (plcN 812 tn rn)).length = acc.length + ((rdL Br g).length + 1) := by rw [← erd, ← hacc]; simp
          refine ⟨fun c => by omega, fun _ => ⟨by omega, fun c => by omega, fun _ => t_mPush' hU mU (by omega) (by omega) (by omega) (fun ω j1 j2 => ⟨by omega, ?_⟩)⟩⟩
          refine ih (acc ++ [((g - cB Br g : Nat) : Int)]) ω _ _ _ (by omega) ?_ j1 (f3.tr j2)
          rw [← hacc]
          simp
        · rw [er, if_neg (fun w => h0 w.2)] at hacc
          exact ⟨fun c => by omega, fun _ => ⟨by omega, fun _ => ⟨by omega, ih acc υ _ _ _ (by omega) hacc mU f3⟩, fun c => by omega⟩⟩
      · rw [if_neg hb, if_neg hb]
        simp only [zrI, zrL, zrR, ne_eq, true_and, and_true, true_or, or_true, not_true_eq_false, not_false_eq_true, false_and, and_false, forall_const, true_implies, false_implies, implies_true, reduceCtorEq, Int.reduceEq, Int.reduceNe, Int.reduceLT, Int.reduceLE, Int.reduceNeg, Nat.reduceEqDiff, if_true, if_false, reduceIte, Int.reduceMul, Int.reduceAdd, Int.reduceSub]
        rw [er, if_neg (fun w => hb w.1)] at hacc
        refine ⟨fun c => by omega, fun _ => ⟨by omega, by omega, by omega, ?_⟩⟩
        rw [show ((g + 1 - (cB Br g + 0) : Nat) : Int) + -1 = ((g - cB Br g : Nat) : Int) by omega]
        exact ih acc υ _ _ _ (by omega) hacc mU f3
  have hp0 : 0 < plcN 1300 tn rn := (hpl 0).mpr (by omega)
  have elast : (tn : Int) * Int.tdiv (1299 - (rn : Int)) (tn : Int) = ((tn * plcN 1300 tn rn : Nat) : Int) - (tn : Int) := by
    have e1 : (1299 - rn) / tn + 1 = plcN 1300 tn rn := by
      unfold plcN
      rw [← Nat.add_div_right _ (by omega)]
      congr 1
      omega
    have e2 : (1299 : Int) - (rn : Int) = ((1299 - rn : Nat) : Int) := by omega
    rw [Int.tdiv_eq_ediv_of_nonneg (by omega), e2, ← Int.natCast_ediv, ← e1, Nat.mul_add, Int.natCast_add, Int.natCast_mul]
    omega
  have ed : 0 ≤ Int.tdiv (1299 - (rn : Int)) (tn : Int) ∧ Int.tdiv (1299 - (rn : Int)) (tn : Int) ≤ 1299 - (rn : Int) := by
    rw [Int.tdiv_eq_ediv_of_nonneg (by omega)]
    exact ⟨Int.ediv_nonneg (by omega) (by omega), Int.ediv_le_self _ (by omega)⟩
  have hlast := (hpl (plcN 1300 tn rn - 1)).mp (by omega)
  have hlast2 : tn * (plcN 1300 tn rn - 1) + tn = tn * plcN 1300 tn rn := by
    rw [← Nat.mul_succ]
    congr 1
    omega
  have k71 : ∀ (g i : Nat) (u2 u3 : PV) (υ : ZM), i + g = plcN 1300 tn rn → MS υ (upS M 8 []) → Fr mfr τ υ → WP m_Mod_quotient 71 [zr 192, zi (tn : Int), u2, u3, zi d, zi ((i - cB Br i : Nat) : Int), zi ((rn : Int) + (((tn * plcN 1300 tn rn : Nat) : Int) - (tn : Int))), zi ((rn : Int) + ((tn * i : Nat) : Int))] [] υ (0, 0) Q := by
    intro g
    induction g with
    | zero =>
      intro i u2 u3 υ hi mU f3
      rw [show i = plcN 1300 tn rn by omega]
      have := k111 (plcN 1300 tn rn) [] υ u2 u3 (zi ((rn : Int) + (((tn * plcN 1300 tn rn : Nat) : Int) - (tn : Int)))) (Nat.le_refl _) (by simp) mU f3
      rw [show (rn : Int) + ((tn * plcN 1300 tn rn : Nat) : Int) - (tn : Int) = (rn : Int) + (((tn * plcN 1300 tn rn : Nat) : Int) - (tn : Int)) by omega] at this
      exact r_Mod_quotient_71 ⟨fun _ => this, fun c => by omega⟩
    | succ g ih =>
      intro i u2 u3 υ hi mU f3
      have hU := f3.shp hT
      have hb8 := (hpl i).mp (by omega)
      have hle : tn * i + tn ≤ tn * plcN 1300 tn rn := by
        rw [← Nat.mul_succ]
        exact Nat.mul_le_mul_left _ (by omega)
      have hv : zI υ 206 ((rn : Int) + ((tn * i : Nat) : Int)) = if Br i then 1 else 0 := by rw [(f3.2.2.2 206 (by omega)).1]; exact hat i (by omega)
      have hc := cB_le Br i
      have ec : cB Br (i + 1) = cB Br i + (if Br i then 1 else 0) := rfl
      have ihi := ih (i + 1) u2 u3 υ (by omega) mU f3
      rw [ec, show (rn : Int) + ((tn * (i + 1) : Nat) : Int) = (rn : Int) + ((tn * i : Nat) : Int) + (tn : Int) by rw [Nat.mul_succ]; omega] at ihi
      refine r_Mod_quotient_71 ?_
      simp only [hU, hv, zrI, zrL, zrR, Shp_wI, Shp_wJ, zR_wI, zR_wJ, zJ_wI, zI_wJ, zobj_wI, zobj_wJ, zarr_wI, zarr_wJ, zS_wI, zS_wJ, o_192, a_193, a_194, a_195, a_196, a_197, a_198, a_199, a_200, a_201, a_202, a_203, a_204, a_205, a_206, a_207, a_208, a_209, a_210, r_192_0, r_192_1, r_192_2, r_192_3, r_192_4, r_192_5, r_192_7, r_192_8, r_192_14, r_192_16, r_192_17, r_192_18, r_192_19, r_192_20, r_192_22, r_192_23, r_192_25, r_192_26, zrI, zrL, zrR, ne_eq, true_and, and_true, true_or, or_true, not_true_eq_false, not_false_eq_true, false_and, and_false, forall_const, true_implies, false_implies, implies_true, reduceCtorEq, Int.reduceEq, Int.reduceNe, Int.reduceLT, Int.reduceLE, Int.reduceNeg, Nat.reduceEqDiff, if_true, if_false, reduceIte, Int.reduceMul, Int.reduceAdd, Int.reduceSub]
      by_cases hb : Br i = true
      · rw [if_pos hb] at ihi
        rw [if_pos hb]
        simp only [zrI, zrL, zrR, ne_eq, true_and, and_true, true_or, or_true, not_true_eq_false, not_false_eq_true, false_and, and_false, forall_const, true_implies, false_implies, implies_true, reduceCtorEq, Int.reduceEq, Int.reduceNe, Int.reduceLT, Int.reduceLE, Int.reduceNeg, Nat.reduceEqDiff, if_true, if_false, reduceIte, Int.reduceMul, Int.reduceAdd, Int.reduceSub]
        refine ⟨fun c => by omega, fun _ => ⟨by omega, by omega, by omega, ?_⟩⟩
        rw [show ((i - cB Br i : Nat) : Int) + 0 = ((i + 1 - (cB Br i + 1) : Nat) : Int) by omega]
        exact ihi
      · rw [if_neg hb] at ihi
        rw [if_neg hb]
        simp only [zrI, zrL, zrR, ne_eq, true_and, and_true, true_or, or_true, not_true_eq_false, not_false_eq_true, false_and, and_false, forall_const, true_implies, false_implies, implies_true, reduceCtorEq, Int.reduceEq, Int.reduceNe, Int.reduceLT, Int.reduceLE, Int.reduceNeg, Nat.reduceEqDiff, if_true, if_false, reduceIte, Int.reduceMul, Int.reduceAdd, Int.reduceSub]
        refine ⟨fun c => by omega, fun _ => ⟨by omega, by omega, by omega, ?_⟩⟩
        rw [show ((i - cB Br i : Nat) : Int) + 1 = ((i + 1 - (cB Br i + 0) : Nat) : Int) by omega]
        exact ihi
  simp only [hT, zrI, zrL, zrR, Shp_wI, Shp_wJ, zR_wI, zR_wJ, zJ_wI, zI_wJ, zobj_wI, zobj_wJ, zarr_wI, zarr_wJ, zS_wI, zS_wJ, o_192, a_193, a_194, a_195, a_196, a_197, a_198, a_199, a_200, a_201, a_202, a_203, a_204, a_205, a_206, a_207, a_208, a_209, a_210, r_192_0, r_192_1, r_192_2, r_192_3, r_192_4, r_192_5, r_192_7, r_192_8, r_192_14, r_192_16, r_192_17, r_192_18, r_192_19, r_192_20, r_192_22, r_192_23, r_192_25, r_192_26, zrI, zrL, zrR, ne_eq, true_and, and_true, true_or, or_true, not_true_eq_false, not_false_eq_true, false_and, and_false, forall_const, true_implies, false_implies, implies_true, reduceCtorEq, Int.reduceEq, Int.reduceNe, Int.reduceLT, Int.reduceLE, Int.reduceNeg, Nat.reduceEqDiff, if_true, if_false, reduceIte, Int.reduceMul, Int.reduceAdd, Int.reduceSub]
  refine t_mEmpty hT mT (by omega) (by omega) (fun υ w1 f3 => ?_)
  have hU := f3.shp hT
  rw [elast]
  have := k71 (plcN 1300 tn rn) 0 (zi (rn : Int)) (zi s) υ (by omega) w1 f3
  rw [show ((0 - cB Br 0 : Nat) : Int) = 0 from rfl, show (rn : Int) + ((tn * 0 : Nat) : Int) = (rn : Int) by simp] at this
  exact ⟨by omega, by omega, by omega, by omega, by omega, this⟩
