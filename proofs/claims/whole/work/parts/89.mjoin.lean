/-! join, of the reference -/
theorem t_mJoinB {Q : ZQ} {σ : ZM} {N : List (Int × List Int)} {M S : Int → List Int} {s d : Int} {t W c : Nat} (hS : Shp σ) (hN : MN σ N) (m : MS σ M) (hM : ∀ s, 0 ≤ s → s ≤ 7 → M s = S s) (s0 : 0 ≤ s) (s1 : s ≤ 7) (d0 : 0 ≤ d) (d8 : d + t ≤ 8) (ok : JOk (S s) (jq S d) t W) (o2 : JOk (S s) (jq S d) t (widN 400 t)) (eW : W + t * c = widN 400 t)
    (q1 : ∀ σ', MI σ' (upS S s (jL (S s) (jq S d) t)) (actN S N s) → Fz mbf σ σ' → Q (zi (jL (S s) (jq S d) t).sum) σ') (u4 u5 u8 u9 : PV) : WP m_Mod_join 219 [zr 192, zi (t : Int), zi s, zi d, u4, u5, zi (W : Int), zi 0, u8, u9] [] σ (0, 0) Q := by
  have t0 := ok.t0
  have t1 := ok.t1
  have hW := ok.hW
  have hp := ok.hp
  have eM := hM s s0 s1
  have jfar := ok.far
  have k293 : ∀ (g k : Nat) (τ : ZM) (u6 u8 u9 : PV), k + g = t → MB τ (mjB (S s) (jq S d) t W k) → Fz btf σ τ → WP m_Mod_join 293 [zr 192, zi (t : Int), zi s, zi d, u4, u5, u6, zi (k : Int), u8, u9] [] τ (0, 0) Q := by
    intro g
    induction g with
    | zero =>
      intro k τ u6 u8 u9 hk aT f
      have hT := f.shp hS
      rw [show k = t by omega, mjB_all (by omega)] at aT
      refine r_Mod_join_293 ?_
      simp only [hT, zrI, zrL, zrR, Shp_wI, Shp_wJ, zR_wI, zR_wJ, zJ_wI, zI_wJ, zobj_wI, zobj_wJ, zarr_wI, zarr_wJ, zS_wI, zS_wJ, o_192, a_193, a_194, a_195, a_196, a_197, a_198, a_199, a_200, a_201, a_202, a_203, a_204, a_205, a_206, a_207, a_208, a_209, a_210, r_192_0, r_192_1, r_192_2, r_192_3, r_192_4, r_192_5, r_192_7, r_192_8, r_192_14, r_192_16, r_192_17, r_192_18, r_192_19, r_192_20, r_192_22, r_192_23, r_192_25, r_192_26, zrI, zrL, zrR, ne_eq, true_and, and_true, true_or, or_true, not_true_eq_false, not_false_eq_true, false_and, and_false, forall_const, true_implies, false_implies, implies_true, reduceCtorEq, Int.reduceEq, Int.reduceNe, Int.reduceLT, Int.reduceLE, Int.reduceNeg, Nat.reduceEqDiff, if_true, if_false, reduceIte, Int.reduceMul, Int.reduceAdd, Int.reduceSub]
      refine ⟨fun _ => t_fromBeads hT (f.ms (fun j => by omega) (fun j => by omega) m) aT (ok.e' (by omega)) (fun ω w1 f3 => ?_), fun c => by omega⟩
      rw [jL_eq ok o2 eW] at w1
      have hO := f3.shp hT
      have f3z : Fz mbf τ ω := f3.z (fun a j w => by omega)
      have f123 : Fz mbf σ ω := (f.mono (fun a j w => Or.inr w)).tr f3z
      have hNO : MN ω N := (f3.z (P' := mfr') (fun a j w => by omega)).mn (by omega) (fun j => by omega) (fun j => by omega) (fun j => by omega) (f.mn (by omega) (fun j => by omega) (fun j => by omega) (fun j => by omega) hN)
      simp only [hO, zrI, zrL, zrR, Shp_wI, Shp_wJ, zR_wI, zR_wJ, zJ_wI, zI_wJ, zobj_wI, zobj_wJ, zarr_wI, zarr_wJ, zS_wI, zS_wJ, o_192, a_193, a_194, a_195, a_196, a_197, a_198, a_199, a_200, a_201, a_202, a_203, a_204, a_205, a_206, a_207, a_208, a_209, a_210, r_192_0, r_192_1, r_192_2, r_192_3, r_192_4, r_192_5, r_192_7, r_192_8, r_192_14, r_192_16, r_192_17, r_192_18, r_192_19, r_192_20, r_192_22, r_192_23, r_192_25, r_192_26, zrI, zrL, zrR, ne_eq, true_and, and_true, true_or, or_true, not_true_eq_false, not_false_eq_true, false_and, and_false, forall_const, true_implies, false_implies, implies_true, reduceCtorEq, Int.reduceEq, Int.reduceNe, Int.reduceLT, Int.reduceLE, Int.reduceNeg, Nat.reduceEqDiff, if_true, if_false, reduceIte, Int.reduceMul, Int.reduceAdd, Int.reduceSub]
      refine t_mSet (S := S) hO hNO w1 (fun u u0 u1 => by unfold upS; rw [if_neg (by omega)]; exact hM u u0 u1) (upS_same) s0 s1 (fun ξ j1 j2 => ?_)
      obtain ⟨hX, hNX, M2, m2, hM2⟩ := j1
      have e2 := hM2 s s0 s1
      rw [upS_same] at e2
      simp only [hX, zrI, zrL, zrR, Shp_wI, Shp_wJ, zR_wI, zR_wJ, zJ_wI, zI_wJ, zobj_wI, zobj_wJ, zarr_wI, zarr_wJ, zS_wI, zS_wJ, o_192, a_193, a_194, a_195, a_196, a_197, a_198, a_199, a_200, a_201, a_202, a_203, a_204, a_205, a_206, a_207, a_208, a_209, a_210, r_192_0, r_192_1, r_192_2, r_192_3, r_192_4, r_192_5, r_192_7, r_192_8, r_192_14, r_192_16, r_192_17, r_192_18, r_192_19, r_192_20, r_192_22, r_192_23, r_192_25, r_192_26, zrI, zrL, zrR, ne_eq, true_and, and_true, true_or, or_true, not_true_eq_false, not_false_eq_true, false_and, and_false, forall_const, true_implies, false_implies, implies_true, reduceCtorEq, Int.reduceEq, Int.reduceNe, Int.reduceLT, Int.reduceLE, Int.reduceNeg, Nat.reduceEqDiff, if_true, if_false, reduceIte, Int.reduceMul, Int.reduceAdd, Int.reduceSub]
      refine t_mSize hX m2 s0 (by omega) (by rw [e2]; exact jL_Pt o2) ?_
      rw [e2]
      simp only [zrI, zrL, zrR, ne_eq, true_and, and_true, true_or, or_true, not_true_eq_false, not_false_eq_true, false_and, and_false, forall_const, true_implies, false_implies, implies_true, reduceCtorEq, Int.reduceEq, Int.reduceNe, Int.reduceLT, Int.reduceLE, Int.reduceNeg, Nat.reduceEqDiff, if_true, if_false, reduceIte, Int.reduceMul, Int.reduceAdd, Int.reduceSub]
      exact q1 ξ ⟨hX, hNX, M2, m2, hM2⟩ (f123.tr (j2.mono (fun a j w => Or.inl w)))
    | succ g ih =>
      intro k τ u6 u8 u9 hk aT f
      have hkt : k < t := by omega
      have hpl := fun i => plcN_iff (T := 1300) (t := t) (r := k) (i := i) (by omega) (by omega)
      have hp8 := plcN_le (T := 1300) (t := t) (r := k) (by omega) (by omega)
      have hrc := rcN_eq (T := 1300) (t := t) (r := k) (by omega) (by omega) (by omega) aT.2
      have hnb := rc_bd (r := k) (by omega) t1 hp hW hkt
      have hq := (ok.hq k hkt).1
      have eQ : M (d + (k : Int)) = jq S d k := hM _ (by omega) (by omega)
      have hplc := fun i => ok.plc (r := k) (i := i) hkt
      have hmrc : rcN (mjB (S s) (jq S d) t W k) t k = rcN (stB (S s) W W) t k := mjB_rc hkt
      have hli := mjB_li (l := S s) (q := jq S d) (t := t) (W := W) (k := k)
      generalize hn : rcN (stB (S s) W W) t k = n at *
      generalize hB : mjB (S s) (jq S d) t W k = B at *
      have k354 : ∀ (g j : Nat) (υ : ZM) (u6 : PV), j + g = n → MB υ (liI B t k (jq S d k) n j) → Fz btf σ υ → WP m_Mod_join 354 [zr 192, zi (t : Int), zi s, zi d, u4, u5, u6, zi (k : Int), zi (n : Int), zi (j : Int)] [] υ (0, 0) Q := by
        intro g
        induction g with
        | zero =>
          intro j υ u6 hj aU f2
          rw [show j = n by omega, hli] at aU
          have := ih (k + 1) υ (zkill u6) (zi (n : Int)) (zi (j : Int)) (by omega) aU f2
          rw [Int.natCast_succ] at this
          exact r_Mod_join_354 ⟨fun _ => ⟨by omega, this⟩, fun c => by omega⟩
        | succ g ihg =>
          intro j υ u6 hj aU f2
          have hU := f2.shp hS
          have mU := f2.ms (fun j => by omega) (fun j => by omega) m
          have hrg := hq.rng (j : Int)
          have hb := hplc j (by omega)
          have hfb := fB_bd hq (show j < n by omega)
          have ef : (n : Int) - 1 - (j : Int) + ga (jq S d k) (j : Int) = (fB (jq S d k) n j : Int) := by unfold fB; omega
          have e2 : (t : Int) * (fB (jq S d k) n j : Int) = ((t * fB (jq S d k) n j : Nat) : Int) := by rw [Int.natCast_mul]
          refine r_Mod_join_354 ?_
          simp only [hU, zrI, zrL, zrR, Shp_wI, Shp_wJ, zR_wI, zR_wJ, zJ_wI, zI_wJ, zobj_wI, zobj_wJ, zarr_wI, zarr_wJ, zS_wI, zS_wJ, o_192, a_193, a_194, a_195, a_196, a_197, a_198, a_199, a_200, a_201, a_202, a_203, a_204, a_205, a_206, a_207, a_208, a_209, a_210, r_192_0, r_192_1, r_192_2, r_192_3, r_192_4, r_192_5, r_192_7, r_192_8, r_192_14, r_192_16, r_192_17, r_192_18, r_192_19, r_192_20, r_192_22, r_192_23, r_192_25, r_192_26, zrI, zrL, zrR, ne_eq, true_and, and_true, true_or, or_true, not_true_eq_false, not_false_eq_true, false_and, and_false, forall_const, true_implies, false_implies, implies_true, reduceCtorEq, Int.reduceEq, Int.reduceNe, Int.reduceLT, Int.reduceLE, Int.reduceNeg, Nat.reduceEqDiff, if_true, if_false, reduceIte, Int.reduceMul, Int.reduceAdd, Int.reduceSub]
          refine ⟨fun c => by omega, fun _ => ⟨by omega, by omega, by omega, t_mAt hU mU (by omega) (by omega) (by omega) ?_⟩⟩
          rw [eQ]
          simp only [hU, ef, e2, zrI, zrL, zrR, Shp_wI, Shp_wJ, zR_wI, zR_wJ, zJ_wI, zI_wJ, zobj_wI, zobj_wJ, zarr_wI, zarr_wJ, zS_wI, zS_wJ, o_192, a_193, a_194, a_195, a_196, a_197, a_198, a_199, a_200, a_201, a_202, a_203, a_204, a_205, a_206, a_207, a_208, a_209, a_210, r_192_0, r_192_1, r_192_2, r_192_3, r_192_4, r_192_5, r_192_7, r_192_8, r_192_14, r_192_16, r_192_17, r_192_18, r_192_19, r_192_20, r_192_22, r_192_23, r_192_25, r_192_26, zrI, zrL, zrR, ne_eq, true_and, and_true, true_or, or_true, not_true_eq_false, not_false_eq_true, false_and, and_false, forall_const, true_implies, false_implies, implies_true, reduceCtorEq, Int.reduceEq, Int.reduceNe, Int.reduceLT, Int.reduceLE, Int.reduceNeg, Nat.reduceEqDiff, if_true, if_false, reduceIte, Int.reduceMul, Int.reduceAdd, Int.reduceSub]
          refine ⟨by omega, by omega, by omega, by omega, by omega, ?_⟩
          have aN := aU.up (b := true) (x := 1) rfl (show k + t * fB (jq S d k) n j < 1300 by omega)
          rw [liI_up hkt] at aN
          have := ihg (j + 1) _ u6 (by omega) aN (f2.tr (Fz.wI (Or.inl rfl)))
          rw [Int.natCast_succ, Int.natCast_add] at this
          exact this
      have k306 : ∀ (g i : Nat) (υ : ZM) (u6 : PV), i + g = plcN 1300 t k → MB υ (emI B t k i) → Fz btf σ υ → WP m_Mod_join 306 [zr 192, zi (t : Int), zi s, zi d, u4, u5, u6, zi (k : Int), zi (cB (runB B t k) i : Int), zi ((k : Int) + ((t * i : Nat) : Int))] [] υ (0, 0) Q := by
        intro g
        induction g with
        | zero =>
          intro i υ u6 hi aU f2
          have hge : 1300 ≤ k + t * i := by
            rcases Nat.lt_or_ge (k + t * i) 1300 with z | z
            · have := (hpl i).mpr z; omega
            · exact z
          rw [show i = plcN 1300 t k by omega, emI_end (T := 1300) (by omega) hkt (by omega) aT.2, liI_0 (q := jq S d k) (n := n)] at aU
          rw [show cB (runB B t k) i = n by rw [show i = plcN 1300 t k by omega, hrc, hmrc]]
          exact r_Mod_join_306 ⟨fun _ => k354 n 0 υ u6 (by omega) aU f2, fun c => by omega⟩
        | succ g ihg =>
          intro i υ u6 hi aU f2
          have hU := f2.shp hS
          have hb := (hpl i).mp (by omega)
          have hc := cB_le (runB B t k) i
          have ec : cB (runB B t k) (i + 1) = cB (runB B t k) i + (if runB B t k i then 1 else 0) := rfl
          have hv : zI υ 206 ((k : Int) + ((t * i : Nat) : Int)) = if runB B t k i then 1 else 0 := by
            have := aU.1 (k + t * i) hb
            rw [Int.natCast_add] at this
            have e1 : emI B t k i (k + t * i) = runB B t k i := by
              unfold emI
              rw [if_neg (fun w => by rw [(dm (t := t) (r := k) (i := i) hkt).2] at w; omega)]
              rfl
            rw [this, e1]
          have aN := aU.up (b := false) (x := 0) rfl hb
          rw [emI_up hkt, Int.natCast_add] at aN
          have ihi := ihg (i + 1) _ u6 (by omega) aN (f2.tr (Fz.wI (Or.inl rfl)))
          rw [ec, show (k : Int) + ((t * (i + 1) : Nat) : Int) = (k : Int) + ((t * i : Nat) : Int) + (t : Int) by rw [Nat.mul_succ]; omega] at ihi
          refine r_Mod_join_306 ?_
          simp only [hU, hv, zrI, zrL, zrR, Shp_wI, Shp_wJ, zR_wI, zR_wJ, zJ_wI, zI_wJ, zobj_wI, zobj_wJ, zarr_wI, zarr_wJ, zS_wI, zS_wJ, o_192, a_193, a_194, a_195, a_196, a_197, a_198, a_199, a_200, a_201, a_202, a_203, a_204, a_205, a_206, a_207, a_208, a_209, a_210, r_192_0, r_192_1, r_192_2, r_192_3, r_192_4, r_192_5, r_192_7, r_192_8, r_192_14, r_192_16, r_192_17, r_192_18, r_192_19, r_192_20, r_192_22, r_192_23, r_192_25, r_192_26, zrI, zrL, zrR, ne_eq, true_and, and_true, true_or, or_true, not_true_eq_false, not_false_eq_true, false_and, and_false, forall_const, true_implies, false_implies, implies_true, reduceCtorEq, Int.reduceEq, Int.reduceNe, Int.reduceLT, Int.reduceLE, Int.reduceNeg, Nat.reduceEqDiff, if_true, if_false, reduceIte, Int.reduceMul, Int.reduceAdd, Int.reduceSub]
          by_cases hbi : runB B t k i = true
          · rw [if_pos hbi] at ihi
            rw [if_pos hbi]
            simp only [zrI, zrL, zrR, ne_eq, true_and, and_true, true_or, or_true, not_true_eq_false, not_false_eq_true, false_and, and_false, forall_const, true_implies, false_implies, implies_true, reduceCtorEq, Int.reduceEq, Int.reduceNe, Int.reduceLT, Int.reduceLE, Int.reduceNeg, Nat.reduceEqDiff, if_true, if_false, reduceIte, Int.reduceMul, Int.reduceAdd, Int.reduceSub]
            exact ⟨fun c => by omega, fun _ => ⟨by omega, by omega, by omega, by omega, ihi⟩⟩
          · rw [if_neg hbi] at ihi
            rw [if_neg hbi]
            simp only [zrI, zrL, zrR, ne_eq, true_and, and_true, true_or, or_true, not_true_eq_false, not_false_eq_true, false_and, and_false, forall_const, true_implies, false_implies, implies_true, reduceCtorEq, Int.reduceEq, Int.reduceNe, Int.reduceLT, Int.reduceLE, Int.reduceNeg, Nat.reduceEqDiff, if_true, if_false, reduceIte, Int.reduceMul, Int.reduceAdd, Int.reduceSub]
            exact ⟨fun c => by omega, fun _ => ⟨by omega, by omega, by omega, by omega, ihi⟩⟩
      refine r_Mod_join_293 ⟨fun c => by omega, fun _ => ?_⟩
      have := k306 (plcN 1300 t k) 0 τ u6 (by omega) (by
        rw [show emI B t k 0 = B by funext x; unfold emI; rw [if_neg (fun w => absurd w.2 (Nat.not_lt_zero _))]]
        exact aT) f
      rw [show (k : Int) + ((t * 0 : Nat) : Int) = (k : Int) by simp] at this
      exact this
  have k244 : ∀ (g k : Nat) (u8 u9 : PV) (τ : ZM), k + g = W → MB τ (stB (S s) W k) → Fz btf σ τ → WP m_Mod_join 244 [zr 192, zi (t : Int), zi s, zi d, u4, u5, zi (W : Int), zi (k : Int), u8, u9] [] τ (0, 0) Q := by
    intro g
    induction g with
    | zero =>
      intro k u8 u9 τ hk a f
      rw [show k = W by omega, ← mjB_0 (q := jq S d) (t := t)] at a
      exact r_Mod_join_244 ⟨fun _ => k293 t 0 τ _ _ _ (by omega) a f, fun c => by omega⟩
    | succ g ih =>
      intro k u8 u9 τ hk a f
      have hT := f.shp hS
      have mT := f.ms (fun j => by omega) (fun j => by omega) m
      have hr := hp.rng (k : Int)
      have hb := fB_bd hp (show k < W by omega)
      have hf : ga (S s) (k : Int) + (W : Int) - 1 - (k : Int) = (fB (S s) W k : Int) := by unfold fB; omega
      refine r_Mod_join_244 ?_
      simp only [hT, zrI, zrL, zrR, Shp_wI, Shp_wJ, zR_wI, zR_wJ, zJ_wI, zI_wJ, zobj_wI, zobj_wJ, zarr_wI, zarr_wJ, zS_wI, zS_wJ, o_192, a_193, a_194, a_195, a_196, a_197, a_198, a_199, a_200, a_201, a_202, a_203, a_204, a_205, a_206, a_207, a_208, a_209, a_210, r_192_0, r_192_1, r_192_2, r_192_3, r_192_4, r_192_5, r_192_7, r_192_8, r_192_14, r_192_16, r_192_17, r_192_18, r_192_19, r_192_20, r_192_22, r_192_23, r_192_25, r_192_26, zrI, zrL, zrR, ne_eq, true_and, and_true, true_or, or_true, not_true_eq_false, not_false_eq_true, false_and, and_false, forall_const, true_implies, false_implies, implies_true, reduceCtorEq, Int.reduceEq, Int.reduceNe, Int.reduceLT, Int.reduceLE, Int.reduceNeg, Nat.reduceEqDiff, if_true, if_false, reduceIte, Int.reduceMul, Int.reduceAdd, Int.reduceSub]
      refine ⟨fun c => by omega, fun _ => t_mAt hT mT s0 (by omega) (by omega) ?_⟩
      rw [eM]
      simp only [hT, hf, zrI, zrL, zrR, Shp_wI, Shp_wJ, zR_wI, zR_wJ, zJ_wI, zI_wJ, zobj_wI, zobj_wJ, zarr_wI, zarr_wJ, zS_wI, zS_wJ, o_192, a_193, a_194, a_195, a_196, a_197, a_198, a_199, a_200, a_201, a_202, a_203, a_204, a_205, a_206, a_207, a_208, a_209, a_210, r_192_0, r_192_1, r_192_2, r_192_3, r_192_4, r_192_5, r_192_7, r_192_8, r_192_14, r_192_16, r_192_17, r_192_18, r_192_19, r_192_20, r_192_22, r_192_23, r_192_25, r_192_26, zrI, zrL, zrR, ne_eq, true_and, and_true, true_or, or_true, not_true_eq_false, not_false_eq_true, false_and, and_false, forall_const, true_implies, false_implies, implies_true, reduceCtorEq, Int.reduceEq, Int.reduceNe, Int.reduceLT, Int.reduceLE, Int.reduceNeg, Nat.reduceEqDiff, if_true, if_false, reduceIte, Int.reduceMul, Int.reduceAdd, Int.reduceSub]
      refine ⟨by omega, by omega, by omega, fun c => by omega, fun _ => ⟨by omega, by omega, ?_⟩⟩
      have := ih (k + 1) (zi (fB (S s) W k : Int)) u9 _ (by omega) (a.up (b := true) (x := 1) rfl (show fB (S s) W k < 1300 by omega)) (f.tr (Fz.wI (Or.inl rfl)))
      rw [Int.natCast_succ] at this
      exact this
  have k219 : ∀ (g k : Nat) (τ : ZM), k + g = 1300 → (∀ p : Nat, p < k → zI τ 206 (p : Int) = 0) → Fz btf σ τ → WP m_Mod_join 219 [zr 192, zi (t : Int), zi s, zi d, u4, u5, zi (W : Int), zi (k : Int), u8, u9] [] τ (0, 0) Q := by
    intro g
    induction g with
    | zero =>
      intro k τ hk a f
      refine r_Mod_join_219 ⟨fun _ => k244 W 0 _ _ τ (by omega) ⟨fun p hp => ?_, fun p hp => rfl⟩ f, fun c => by omega⟩
      rw [a p (by omega)]
      rfl
    | succ g ih =>
      intro k τ hk a f
      have hT := f.shp hS
      refine r_Mod_join_219 ?_
      simp only [hT, zrI, zrL, zrR, Shp_wI, Shp_wJ, zR_wI, zR_wJ, zJ_wI, zI_wJ, zobj_wI, zobj_wJ, zarr_wI, zarr_wJ, zS_wI, zS_wJ, o_192, a_193, a_194, a_195, a_196, a_197, a_198, a_199, a_200, a_201, a_202, a_203, a_204, a_205, a_206, a_207, a_208, a_209, a_210, r_192_0, r_192_1, r_192_2, r_192_3, r_192_4, r_192_5, r_192_7, r_192_8, r_192_14, r_192_16, r_192_17, r_192_18, r_192_19, r_192_20, r_192_22, r_192_23, r_192_25, r_192_26, zrI, zrL, zrR, ne_eq, true_and, and_true, true_or, or_true, not_true_eq_false, not_false_eq_true, false_and, and_false, forall_const, true_implies, false_implies, implies_true, reduceCtorEq, Int.reduceEq, Int.reduceNe, Int.reduceLT, Int.reduceLE, Int.reduceNeg, Nat.reduceEqDiff, if_true, if_false, reduceIte, Int.reduceMul, Int.reduceAdd, Int.reduceSub]
      refine ⟨fun c => by omega, fun _ => ⟨by omega, by omega, ?_⟩⟩
      have := ih (k + 1) (wI τ 206 (k : Int) 0) (by omega) (fun p hp => by
        rw [zI_wI]
        split
        · rfl
        · exact a p (by omega)) (f.tr (Fz.wI (Or.inl rfl)))
      rw [Int.natCast_succ] at this
      exact this
  exact k219 1300 0 σ (by omega) (fun p hp => by omega) Fz.rf
