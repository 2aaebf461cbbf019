/-! lead 3, back, reference: unbend -/
theorem u_hi {l : List Int} (hp : Pt l) (hu : unL l) {row : Int} (r0 : (uD l : Int) ≤ row) : sm (fun t => if row < ubS l (2 * t) + t then 1 else 0) (l.length / 2 + 1) = drR (uA l) (uL l) (uD l) row := by
  have hd : (2 * uD l = l.length + 1 ∨ 2 * uD l = l.length) := by unfold uD; omega
  have e1 : sm (fun t => if row < ubS l (2 * t) + t then 1 else 0) (uD l) = drR (uA l) (uL l) (uD l) row := by
    unfold drR
    rw [if_neg (by omega), Int.zero_add]
    refine sm_ext _ (fun k k0 k1 => ?_)
    show (if row < ubS l (2 * k) + k then (1 : Int) else 0) = if k ≤ row ∧ row ≤ k + uL l k then 1 else 0
    unfold uL
    split <;> split <;> omega
  rcases hd with c | c
  · rw [show l.length / 2 + 1 = uD l by omega]
    exact e1
  · rw [show l.length / 2 + 1 = uD l + 1 by omega]
    show sm (fun t => if row < ubS l (2 * t) + t then 1 else 0) (uD l) + (if row < ubS l (2 * (uD l : Int)) + (uD l : Int) then 1 else 0) = _
    rw [e1, ubS_out (l := l) (i := 2 * (uD l : Int)) (by omega), if_neg (by omega)]
    omega
theorem t_mUnbend {Q : ZQ} {σ : ZM} {M : Int → List Int} {s : Int} (hS : Shp σ) (m : MS σ M) (s0 : 0 ≤ s) (s1 : s ≤ 7) (hp : Pt (M s)) (hu : unL (M s)) (q : ∀ σ', MS σ' (upS M 8 (ubL (M s))) → Fr mrtf σ σ' → Q zu σ') : WP m_Mod_unbend 0 [zr 192, zi s, zu, zu, zu, zu, zu, zu, zu, zu, zu] [] σ (0, 0) Q := by
  have hlen := hp.len
  have h4 := hp.2.1
  have e8 : ∀ acc : List Int, upS M 8 acc s = M s := fun acc => by unfold upS; rw [if_neg (by omega)]
  have hD := u_DrP hp hu
  have hd : (2 * uD (M s) = (M s).length + 1 ∨ 2 * uD (M s) = (M s).length) := by unfold uD; omega
  have hH := ub_H hp hu
  have hH4 : drH (uL (M s)) (uD (M s)) ≤ 400 := by
    have := hD.isPt.len
    unfold drL at this
    rw [tbl_len] at this
    omega
  have b0 := ubS_b hp hu (i := 0) (by omega)
  have hr0 := hp.rng 0
  have k201 : ∀ (e j : Nat) (u1 u2 u5 u6 u9 u10 : PV) (τ : ZM), j + e = drH (uL (M s)) (uD (M s)) → MS τ (upS M 8 (tbl (ubR (M s)) j)) → (∀ p : Int, 0 ≤ p → p ≤ ((M s).length : Int) → p % 2 = 1 → zI τ 204 (p / 2) = ubS (M s) p) → (∀ p : Int, 0 ≤ p → p ≤ ((M s).length : Int) → p % 2 = 0 → zI τ 205 (p / 2) = ubS (M s) p) → Fr mrtf σ τ → WP m_Mod_unbend 201 [zr 192, u1, u2, zi (uD (M s) : Int), zi (((M s).length / 2 + 1 : Nat) : Int), u5, u6, zi (ubS (M s) 0), zi (j : Int), u9, u10] [] τ (0, 0) Q := by
    intro e
    induction e with
    | zero =>
      intro j u1 u2 u5 u6 u9 u10 τ hj mT hO hE f1
      rw [show j = drH (uL (M s)) (uD (M s)) by omega] at mT
      exact r_Mod_unbend_201 ⟨fun _ => q τ mT f1, fun w => by omega⟩
    | succ e ih =>
      intro j u1 u2 u5 u6 u9 u10 τ hj mT hO hE f1
      have hT := f1.shp hS
      obtain ⟨r1, r2, r3⟩ := Pt.room (f := ubR (M s)) (n := drH (uL (M s)) (uD (M s))) (j := j) (ubL_Pt hp hu) (by omega)
      have er : ubR (M s) (j : Int) = 2 * drR (uA (M s)) (uL (M s)) (uD (M s)) (j : Int) - 1 := rfl
      have nx : ∀ (u9 u10 : PV) (υ : ZM) (w : Int), w = ubR (M s) (j : Int) → MS υ (upS M 8 (tbl (ubR (M s)) j ++ [w])) → Fr mfr τ υ → WP m_Mod_unbend 201 [zr 192, u1, u2, zi (uD (M s) : Int), zi (((M s).length / 2 + 1 : Nat) : Int), u5, u6, zi (ubS (M s) 0), zi ((j : Int) + 1), u9, u10] [] υ (0, 0) Q := fun u9 u10 υ w hw j1 j2 => by
        rw [hw, ← tbl_snoc] at j1
        have := ih (j + 1) u1 u2 u5 u6 u9 u10 υ (by omega) j1 (fun p p0 p1 p2 => by rw [(j2.2.2.2 204 (by omega)).1]; exact hO p p0 p1 p2) (fun p p0 p1 p2 => by rw [(j2.2.2.2 205 (by omega)).1]; exact hE p p0 p1 p2) (f1.tr (j2.mono (fun a w => Or.inr w)))
        rw [Int.natCast_succ] at this
        exact this
      by_cases c : (j : Int) < (uD (M s) : Int)
      · have v1 := hO (2 * (j : Int) + 1) (by omega) (by omega) (by omega)
        rw [show (2 * (j : Int) + 1) / 2 = (j : Int) by omega] at v1
        have bj := ubS_b hp hu (i := 2 * (j : Int) + 1) (by omega)
        have gj := hp.rng (2 * (j : Int) + 1)
        have lo := hD.low (row := (j : Int)) (by omega) c
        have euA : uA (M s) (j : Int) = ubS (M s) (2 * (j : Int) + 1) := rfl
        refine r_Mod_unbend_201 ?_
        simp only [hT, v1, zrI, zrL, zrR, Shp_wI, Shp_wJ, zR_wI, zR_wJ, zJ_wI, zI_wJ, zobj_wI, zobj_wJ, zarr_wI, zarr_wJ, zS_wI, zS_wJ, o_192, a_193, a_194, a_195, a_196, a_197, a_198, a_199, a_200, a_201, a_202, a_203, a_204, a_205, a_206, a_207, a_208, a_209, a_210, r_192_0, r_192_1, r_192_2, r_192_3, r_192_4, r_192_5, r_192_7, r_192_8, r_192_14, r_192_16, r_192_17, r_192_18, r_192_19, r_192_20, r_192_22, r_192_23, r_192_25, r_192_26, zrI, zrL, zrR, ne_eq, true_and, and_true, true_or, or_true, not_true_eq_false, not_false_eq_true, false_and, and_false, forall_const, true_implies, false_implies, implies_true, reduceCtorEq, Int.reduceEq, Int.reduceNe, Int.reduceLT, Int.reduceLE, Int.reduceNeg, Nat.reduceEqDiff, if_true, if_false, reduceIte, Int.reduceMul, Int.reduceAdd, Int.reduceSub]
        refine ⟨fun w => by omega, fun _ => ⟨fun w => by omega, fun _ => ⟨by omega, by omega, by omega, by omega, t_mPush' hT mT (by omega) (by omega) r1 (fun υ j1 j2 => ⟨by omega, nx _ _ υ _ ?_ j1 j2⟩)⟩⟩⟩
        omega
      · have k235 : ∀ (g n : Nat), n + g = (M s).length / 2 + 1 → 1 ≤ n → WP m_Mod_unbend 235 [zr 192, u1, u2, zi (uD (M s) : Int), zi (((M s).length / 2 + 1 : Nat) : Int), u5, u6, zi (ubS (M s) 0), zi (j : Int), zi (sm (fun t => if (j : Int) < ubS (M s) (2 * t) + t then 1 else 0) n - 1), zi (n : Int)] [] τ (0, 0) Q := by
          intro g
          induction g with
          | zero =>
            intro n hn n1
            rw [show n = (M s).length / 2 + 1 by omega, u_hi hp hu (by omega)]
            have hpos := hD.pos (row := (j : Int)) (by omega) (by omega)
            have hle := hD.isPt.rng (j : Int)
            rw [show ga (drL (uA (M s)) (uL (M s)) (uD (M s))) (j : Int) = drR (uA (M s)) (uL (M s)) (uD (M s)) (j : Int) from ga_tbl (by omega) (by omega)] at hle
            refine r_Mod_unbend_235 ?_
            simp only [hT, zrI, zrL, zrR, Shp_wI, Shp_wJ, zR_wI, zR_wJ, zJ_wI, zI_wJ, zobj_wI, zobj_wJ, zarr_wI, zarr_wJ, zS_wI, zS_wJ, o_192, a_193, a_194, a_195, a_196, a_197, a_198, a_199, a_200, a_201, a_202, a_203, a_204, a_205, a_206, a_207, a_208, a_209, a_210, r_192_0, r_192_1, r_192_2, r_192_3, r_192_4, r_192_5, r_192_7, r_192_8, r_192_14, r_192_16, r_192_17, r_192_18, r_192_19, r_192_20, r_192_22, r_192_23, r_192_25, r_192_26, zrI, zrL, zrR, ne_eq, true_and, and_true, true_or, or_true, not_true_eq_false, not_false_eq_true, false_and, and_false, forall_const, true_implies, false_implies, implies_true, reduceCtorEq, Int.reduceEq, Int.reduceNe, Int.reduceLT, Int.reduceLE, Int.reduceNeg, Nat.reduceEqDiff, if_true, if_false, reduceIte, Int.reduceMul, Int.reduceAdd, Int.reduceSub]
            refine ⟨fun _ => ⟨by omega, by omega, t_mPush' hT mT (by omega) (by omega) r1 (fun υ j1 j2 => ⟨by omega, nx _ _ υ _ ?_ j1 j2⟩)⟩, fun w => by omega⟩
            omega
          | succ g ihg =>
            intro n hn n1
            have v1 := hE (2 * (n : Int)) (by omega) (by omega) (by omega)
            rw [show 2 * (n : Int) / 2 = (n : Int) by omega] at v1
            have bj := ubS_b hp hu (i := 2 * (n : Int)) (by omega)
            have gj := hp.rng (2 * (n : Int))
            have bs := sm_bd (f := fun t => if (j : Int) < ubS (M s) (2 * t) + t then 1 else 0) (B := 1) n (fun i i0 i1 => by split <;> omega)
            have es : sm (fun t => if (j : Int) < ubS (M s) (2 * t) + t then 1 else 0) (n + 1) = sm (fun t => if (j : Int) < ubS (M s) (2 * t) + t then 1 else 0) n + (if (j : Int) < ubS (M s) (2 * (n : Int)) + (n : Int) then 1 else 0) := rfl
            have ih' := ihg (n + 1) (by omega) (by omega)
            rw [es, Int.natCast_succ] at ih'
            generalize sm (fun t => if (j : Int) < ubS (M s) (2 * t) + t then 1 else 0) n = acc at *
            refine r_Mod_unbend_235 ?_
            simp only [hT, v1, zrI, zrL, zrR, Shp_wI, Shp_wJ, zR_wI, zR_wJ, zJ_wI, zI_wJ, zobj_wI, zobj_wJ, zarr_wI, zarr_wJ, zS_wI, zS_wJ, o_192, a_193, a_194, a_195, a_196, a_197, a_198, a_199, a_200, a_201, a_202, a_203, a_204, a_205, a_206, a_207, a_208, a_209, a_210, r_192_0, r_192_1, r_192_2, r_192_3, r_192_4, r_192_5, r_192_7, r_192_8, r_192_14, r_192_16, r_192_17, r_192_18, r_192_19, r_192_20, r_192_22, r_192_23, r_192_25, r_192_26, zrI, zrL, zrR, ne_eq, true_and, and_true, true_or, or_true, not_true_eq_false, not_false_eq_true, false_and, and_false, forall_const, true_implies, false_implies, implies_true, reduceCtorEq, Int.reduceEq, Int.reduceNe, Int.reduceLT, Int.reduceLE, Int.reduceNeg, Nat.reduceEqDiff, if_true, if_false, reduceIte, Int.reduceMul, Int.reduceAdd, Int.reduceSub]
            refine ⟨fun w => by omega, fun _ => ⟨by omega, by omega, fun w => ⟨by omega, by omega, ?_⟩, fun w => ⟨by omega, by omega, ?_⟩⟩⟩
            · rw [if_neg (by omega)] at ih'
              rw [show acc - 1 + 0 = acc + 0 - 1 by omega]
              exact ih'
            · rw [if_pos (by omega)] at ih'
              rw [show acc - 1 + 1 = acc + 1 - 1 by omega]
              exact ih'
        refine r_Mod_unbend_201 ⟨fun w => by omega, fun _ => ⟨fun _ => ?_, fun w => by omega⟩⟩
        have := k235 ((M s).length / 2) 1 (by omega) (by omega)
        rw [show sm (fun t => if (j : Int) < ubS (M s) (2 * t) + t then 1 else 0) 1 = 0 + (if (j : Int) < ubS (M s) (2 * ((0 : Nat) : Int)) + ((0 : Nat) : Int) then 1 else 0) from rfl, show (2 : Int) * ((0 : Nat) : Int) = 0 by rfl, if_pos (by omega)] at this
        exact this
  have k103 : ∀ (e : Nat) (x7 : Int) (u2 u6 u8 u9 u10 : PV) (τ : ZM), x7 + 1 = (e : Int) → x7 < ((M s).length : Int) → MS τ (upS M 8 []) → (∀ p : Int, x7 < p → p ≤ ((M s).length : Int) → p % 2 = 1 → zI τ 204 (p / 2) = ubS (M s) p) → (∀ p : Int, x7 < p → p ≤ ((M s).length : Int) → p % 2 = 0 → zI τ 205 (p / 2) = ubS (M s) p) → Fr mrtf σ τ → WP m_Mod_unbend 103 [zr 192, zi s, u2, zi (uD (M s) : Int), zi (((M s).length / 2 + 1 : Nat) : Int), zi ((x7 + 1) / 2), u6, zi x7, u8, u9, u10] [] τ (0, 0) Q := by
    intro e
    induction e with
    | zero =>
      intro x7 u2 u6 u8 u9 u10 τ hx hx2 mT hO hE f1
      have hT := f1.shp hS
      have v1 := hE 0 (by omega) (by omega) (by omega)
      rw [show (0 : Int) / 2 = 0 by rfl] at v1
      refine r_Mod_unbend_103 ?_
      simp only [hT, v1, zrI, zrL, zrR, Shp_wI, Shp_wJ, zR_wI, zR_wJ, zJ_wI, zI_wJ, zobj_wI, zobj_wJ, zarr_wI, zarr_wJ, zS_wI, zS_wJ, o_192, a_193, a_194, a_195, a_196, a_197, a_198, a_199, a_200, a_201, a_202, a_203, a_204, a_205, a_206, a_207, a_208, a_209, a_210, r_192_0, r_192_1, r_192_2, r_192_3, r_192_4, r_192_5, r_192_7, r_192_8, r_192_14, r_192_16, r_192_17, r_192_18, r_192_19, r_192_20, r_192_22, r_192_23, r_192_25, r_192_26, zrI, zrL, zrR, ne_eq, true_and, and_true, true_or, or_true, not_true_eq_false, not_false_eq_true, false_and, and_false, forall_const, true_implies, false_implies, implies_true, reduceCtorEq, Int.reduceEq, Int.reduceNe, Int.reduceLT, Int.reduceLE, Int.reduceNeg, Nat.reduceEqDiff, if_true, if_false, reduceIte, Int.reduceMul, Int.reduceAdd, Int.reduceSub]
      refine ⟨fun _ => ?_, fun w => by omega⟩
      have := k201 (drH (uL (M s)) (uD (M s))) 0 (zi s) u2 (zi ((x7 + 1) / 2)) (zkill u6) u9 u10 τ (by omega) mT (fun p p0 p1 p2 => hO p (by omega) p1 p2) (fun p p0 p1 p2 => hE p (by omega) p1 p2) f1
      exact this
    | succ e ih =>
      intro x7 u2 u6 u8 u9 u10 τ hx hx2 mT hO hE f1
      have hT := f1.shp hS
      have e1 : Int.tdiv x7 2 = x7 / 2 := Int.tdiv_eq_ediv_of_nonneg (by omega)
      have e2 : Int.tdiv (x7 + 1) 2 = (x7 + 1) / 2 := Int.tdiv_eq_ediv_of_nonneg (by omega)
      have a1 := ubS_step (l := M s) (i := x7) (by omega)
      have b1 := ubS_b hp hu (i := x7) (by omega)
      have b2 := ubS_b hp hu (i := x7 + 1) (by omega)
      have g1 := hp.rng x7
      have g2 := hp.rng (x7 + 1)
      refine r_Mod_unbend_103 ?_
      simp only [hT, e1, e2, zrI, zrL, zrR, Shp_wI, Shp_wJ, zR_wI, zR_wJ, zJ_wI, zI_wJ, zobj_wI, zobj_wJ, zarr_wI, zarr_wJ, zS_wI, zS_wJ, o_192, a_193, a_194, a_195, a_196, a_197, a_198, a_199, a_200, a_201, a_202, a_203, a_204, a_205, a_206, a_207, a_208, a_209, a_210, r_192_0, r_192_1, r_192_2, r_192_3, r_192_4, r_192_5, r_192_7, r_192_8, r_192_14, r_192_16, r_192_17, r_192_18, r_192_19, r_192_20, r_192_22, r_192_23, r_192_25, r_192_26, zrI, zrL, zrR, ne_eq, true_and, and_true, true_or, or_true, not_true_eq_false, not_false_eq_true, false_and, and_false, forall_const, true_implies, false_implies, implies_true, reduceCtorEq, Int.reduceEq, Int.reduceNe, Int.reduceLT, Int.reduceLE, Int.reduceNeg, Nat.reduceEqDiff, if_true, if_false, reduceIte, Int.reduceMul, Int.reduceAdd, Int.reduceSub]
      refine ⟨fun w => by omega, fun _ => ⟨by omega, by omega, by omega, fun c => t_mAt hT mT s0 (by omega) (by omega) ?_, fun c => t_mAt hT mT s0 (by omega) (by omega) ?_⟩⟩
      · rw [e8]
        have hev : x7 % 2 = 0 := by omega
        have v1 := hO (x7 + 1) (by omega) (by omega) (by omega)
        rw [show (x7 + 1) / 2 = x7 / 2 by omega] at v1
        simp only [hT, v1, zrI, zrL, zrR, Shp_wI, Shp_wJ, zR_wI, zR_wJ, zJ_wI, zI_wJ, zobj_wI, zobj_wJ, zarr_wI, zarr_wJ, zS_wI, zS_wJ, o_192, a_193, a_194, a_195, a_196, a_197, a_198, a_199, a_200, a_201, a_202, a_203, a_204, a_205, a_206, a_207, a_208, a_209, a_210, r_192_0, r_192_1, r_192_2, r_192_3, r_192_4, r_192_5, r_192_7, r_192_8, r_192_14, r_192_16, r_192_17, r_192_18, r_192_19, r_192_20, r_192_22, r_192_23, r_192_25, r_192_26, zrI, zrL, zrR, ne_eq, true_and, and_true, true_or, or_true, not_true_eq_false, not_false_eq_true, false_and, and_false, forall_const, true_implies, false_implies, implies_true, reduceCtorEq, Int.reduceEq, Int.reduceNe, Int.reduceLT, Int.reduceLE, Int.reduceNeg, Nat.reduceEqDiff, if_true, if_false, reduceIte, Int.reduceMul, Int.reduceAdd, Int.reduceSub]
        rw [show ga (M s) x7 - ubS (M s) (x7 + 1) = ubS (M s) x7 by omega]
        refine ⟨by omega, by omega, by omega, by omega, ?_⟩
        have f2 : Fr mrtf τ (wI τ 205 ((x7 + 1) / 2) (ubS (M s) x7)) := Fr.wI (Or.inl (Or.inr rfl))
        have f2' : Fr (fun a => a = 205) τ (wI τ 205 ((x7 + 1) / 2) (ubS (M s) x7)) := Fr.wI rfl
        have := ih (x7 + -1) u2 (zi ((x7 + 1) / 2)) (zi (x7 / 2)) (zi ((x7 + 1) / 2)) u10 _ (by omega) (by omega) (f2'.ms (by omega) (by omega) mT) (fun p p0 p1 p2 => by
          rw [zI_wI, if_neg (by omega)]
          exact hO p (by omega) p1 p2) (fun p p0 p1 p2 => by
          rw [zI_wI]
          by_cases cp : p = x7
          · rw [if_pos ⟨rfl, by omega⟩, cp]
          · rw [if_neg (by omega)]
            exact hE p (by omega) p1 p2) (f1.tr f2)
        rw [show (x7 + -1 + 1) / 2 = (x7 + 1) / 2 by omega] at this
        exact this
      · rw [e8]
        have hod : x7 % 2 = 1 := by omega
        have v1 := hE (x7 + 1) (by omega) (by omega) (by omega)
        simp only [hT, v1, zrI, zrL, zrR, Shp_wI, Shp_wJ, zR_wI, zR_wJ, zJ_wI, zI_wJ, zobj_wI, zobj_wJ, zarr_wI, zarr_wJ, zS_wI, zS_wJ, o_192, a_193, a_194, a_195, a_196, a_197, a_198, a_199, a_200, a_201, a_202, a_203, a_204, a_205, a_206, a_207, a_208, a_209, a_210, r_192_0, r_192_1, r_192_2, r_192_3, r_192_4, r_192_5, r_192_7, r_192_8, r_192_14, r_192_16, r_192_17, r_192_18, r_192_19, r_192_20, r_192_22, r_192_23, r_192_25, r_192_26, zrI, zrL, zrR, ne_eq, true_and, and_true, true_or, or_true, not_true_eq_false, not_false_eq_true, false_and, and_false, forall_const, true_implies, false_implies, implies_true, reduceCtorEq, Int.reduceEq, Int.reduceNe, Int.reduceLT, Int.reduceLE, Int.reduceNeg, Nat.reduceEqDiff, if_true, if_false, reduceIte, Int.reduceMul, Int.reduceAdd, Int.reduceSub]
        rw [show ga (M s) x7 - ubS (M s) (x7 + 1) = ubS (M s) x7 by omega]
        refine ⟨by omega, by omega, by omega, by omega, ?_⟩
        have f2 : Fr mrtf τ (wI τ 204 (x7 / 2) (ubS (M s) x7)) := Fr.wI (Or.inl (Or.inl rfl))
        have f2' : Fr (fun a => a = 204) τ (wI τ 204 (x7 / 2) (ubS (M s) x7)) := Fr.wI rfl
        have := ih (x7 + -1) u2 (zkill u6) (zi (x7 / 2)) (zi ((x7 + 1) / 2)) u10 _ (by omega) (by omega) (f2'.ms (by omega) (by omega) mT) (fun p p0 p1 p2 => by
          rw [zI_wI]
          by_cases cp : p = x7
          · rw [if_pos ⟨rfl, by omega⟩, cp]
          · rw [if_neg (by omega)]
            exact hO p (by omega) p1 p2) (fun p p0 p1 p2 => by
          rw [zI_wI, if_neg (by omega)]
          exact hE p (by omega) p1 p2) (f1.tr f2)
        rw [show (x7 + -1 + 1) / 2 = x7 / 2 by omega] at this
        exact this
  have g1 := (m s s0 (by omega)).1
  have e1 : Int.tdiv (((M s).length : Int) + 1) 2 = (uD (M s) : Int) := by
    rw [Int.tdiv_eq_ediv_of_nonneg (by omega)]
    unfold uD
    omega
  have e2 : Int.tdiv ((M s).length : Int) 2 = ((M s).length : Int) / 2 := Int.tdiv_eq_ediv_of_nonneg (by omega)
  have e3 : Int.tmod ((M s).length : Int) 2 = ((M s).length : Int) % 2 := Int.tmod_eq_emod_of_nonneg (by omega)
  refine r_Mod_unbend_0 ?_
  simp only [hS, g1, e1, e2, e3, zrI, zrL, zrR, Shp_wI, Shp_wJ, zR_wI, zR_wJ, zJ_wI, zI_wJ, zobj_wI, zobj_wJ, zarr_wI, zarr_wJ, zS_wI, zS_wJ, o_192, a_193, a_194, a_195, a_196, a_197, a_198, a_199, a_200, a_201, a_202, a_203, a_204, a_205, a_206, a_207, a_208, a_209, a_210, r_192_0, r_192_1, r_192_2, r_192_3, r_192_4, r_192_5, r_192_7, r_192_8, r_192_14, r_192_16, r_192_17, r_192_18, r_192_19, r_192_20, r_192_22, r_192_23, r_192_25, r_192_26, zrI, zrL, zrR, ne_eq, true_and, and_true, true_or, or_true, not_true_eq_false, not_false_eq_true, false_and, and_false, forall_const, true_implies, false_implies, implies_true, reduceCtorEq, Int.reduceEq, Int.reduceNe, Int.reduceLT, Int.reduceLE, Int.reduceNeg, Nat.reduceEqDiff, if_true, if_false, reduceIte, Int.reduceMul, Int.reduceAdd, Int.reduceSub]
  refine ⟨by omega, t_mEmpty hS m (by omega) (by omega) (fun τ w1 w2 => ?_)⟩
  have hT := w2.shp hS
  have f1 : Fr mrtf σ τ := w2.mono (fun a w => Or.inr w)
  simp only [hT, zrI, zrL, zrR, Shp_wI, Shp_wJ, zR_wI, zR_wJ, zJ_wI, zI_wJ, zobj_wI, zobj_wJ, zarr_wI, zarr_wJ, zS_wI, zS_wJ, o_192, a_193, a_194, a_195, a_196, a_197, a_198, a_199, a_200, a_201, a_202, a_203, a_204, a_205, a_206, a_207, a_208, a_209, a_210, r_192_0, r_192_1, r_192_2, r_192_3, r_192_4, r_192_5, r_192_7, r_192_8, r_192_14, r_192_16, r_192_17, r_192_18, r_192_19, r_192_20, r_192_22, r_192_23, r_192_25, r_192_26, zrI, zrL, zrR, ne_eq, true_and, and_true, true_or, or_true, not_true_eq_false, not_false_eq_true, false_and, and_false, forall_const, true_implies, false_implies, implies_true, reduceCtorEq, Int.reduceEq, Int.reduceNe, Int.reduceLT, Int.reduceLE, Int.reduceNeg, Nat.reduceEqDiff, if_true, if_false, reduceIte, Int.reduceMul, Int.reduceAdd, Int.reduceSub]
  refine ⟨fun c => ⟨by omega, by omega, by omega, by omega, by omega, by omega, by omega, fun c2 => ⟨by omega, by omega, ?_⟩, fun c2 => ⟨by omega, by omega, ?_⟩⟩, fun c => ?_⟩
  · have a1 := ubS_step (l := M s) (i := ((M s).length : Int) - 1) (by omega)
    rw [ubS_out (l := M s) (i := ((M s).length : Int) - 1 + 1) (by omega)] at a1
    have f2 : Fr (fun a => a = 205) τ (wI τ 205 (((M s).length : Int) / 2 + 1 - 1) 0) := Fr.wI rfl
    have hT2 := f2.shp hT
    refine t_mAt hT2 (f2.ms (by omega) (by omega) w1) s0 (by omega) (by omega) ?_
    rw [e8]
    simp only [hT, zrI, zrL, zrR, Shp_wI, Shp_wJ, zR_wI, zR_wJ, zJ_wI, zI_wJ, zobj_wI, zobj_wJ, zarr_wI, zarr_wJ, zS_wI, zS_wJ, o_192, a_193, a_194, a_195, a_196, a_197, a_198, a_199, a_200, a_201, a_202, a_203, a_204, a_205, a_206, a_207, a_208, a_209, a_210, r_192_0, r_192_1, r_192_2, r_192_3, r_192_4, r_192_5, r_192_7, r_192_8, r_192_14, r_192_16, r_192_17, r_192_18, r_192_19, r_192_20, r_192_22, r_192_23, r_192_25, r_192_26, zrI, zrL, zrR, ne_eq, true_and, and_true, true_or, or_true, not_true_eq_false, not_false_eq_true, false_and, and_false, forall_const, true_implies, false_implies, implies_true, reduceCtorEq, Int.reduceEq, Int.reduceNe, Int.reduceLT, Int.reduceLE, Int.reduceNeg, Nat.reduceEqDiff, if_true, if_false, reduceIte, Int.reduceMul, Int.reduceAdd, Int.reduceSub]
    refine ⟨by omega, by omega, ?_⟩
    have f3 : Fr (fun a => a = 204) (wI τ 205 (((M s).length : Int) / 2 + 1 - 1) 0) (wI (wI τ 205 (((M s).length : Int) / 2 + 1 - 1) 0) 204 ((uD (M s) : Int) - 1) (ga (M s) (((M s).length : Int) - 1))) := Fr.wI rfl
    have := k103 ((M s).length - 1) (((M s).length : Int) - 2) (zi ((M s).length : Int)) (zi (((M s).length : Int) / 2 + 1 - 1)) zu zu zu _ (by omega) (by omega) (f3.ms (by omega) (by omega) (f2.ms (by omega) (by omega) w1)) (fun p p0 p1 p2 => by
      have ep : p = ((M s).length : Int) - 1 := by omega
      rw [zI_wI, if_pos ⟨rfl, by omega⟩, ep]
      omega) (fun p p0 p1 p2 => by
      have ep : p = ((M s).length : Int) := by omega
      rw [zI_wI, if_neg (by omega), zI_wI, if_pos ⟨rfl, by omega⟩, ubS_out (by omega)]) ((f1.tr (f2.mono (fun a w => Or.inl (Or.inr w)))).tr (f3.mono (fun a w => Or.inl (Or.inl w))))
    rw [show (((M s).length : Int) - 2 + 1) / 2 = (uD (M s) : Int) - 1 by omega, show (((M s).length / 2 + 1 : Nat) : Int) = ((M s).length : Int) / 2 + 1 by omega] at this
    exact this
  · have a1 := ubS_step (l := M s) (i := ((M s).length : Int) - 1) (by omega)
    rw [ubS_out (l := M s) (i := ((M s).length : Int) - 1 + 1) (by omega)] at a1
    have f2 : Fr (fun a => a = 204) τ (wI τ 204 ((uD (M s) : Int) - 1) 0) := Fr.wI rfl
    have hT2 := f2.shp hT
    refine t_mAt hT2 (f2.ms (by omega) (by omega) w1) s0 (by omega) (by omega) ?_
    rw [e8]
    simp only [hT, zrI, zrL, zrR, Shp_wI, Shp_wJ, zR_wI, zR_wJ, zJ_wI, zI_wJ, zobj_wI, zobj_wJ, zarr_wI, zarr_wJ, zS_wI, zS_wJ, o_192, a_193, a_194, a_195, a_196, a_197, a_198, a_199, a_200, a_201, a_202, a_203, a_204, a_205, a_206, a_207, a_208, a_209, a_210, r_192_0, r_192_1, r_192_2, r_192_3, r_192_4, r_192_5, r_192_7, r_192_8, r_192_14, r_192_16, r_192_17, r_192_18, r_192_19, r_192_20, r_192_22, r_192_23, r_192_25, r_192_26, zrI, zrL, zrR, ne_eq, true_and, and_true, true_or, or_true, not_true_eq_false, not_false_eq_true, false_and, and_false, forall_const, true_implies, false_implies, implies_true, reduceCtorEq, Int.reduceEq, Int.reduceNe, Int.reduceLT, Int.reduceLE, Int.reduceNeg, Nat.reduceEqDiff, if_true, if_false, reduceIte, Int.reduceMul, Int.reduceAdd, Int.reduceSub]
    refine ⟨by omega, by omega, ?_⟩
    have f3 : Fr (fun a => a = 205) (wI τ 204 ((uD (M s) : Int) - 1) 0) (wI (wI τ 204 ((uD (M s) : Int) - 1) 0) 205 (((M s).length : Int) / 2 + 1 - 1) (ga (M s) (((M s).length : Int) - 1))) := Fr.wI rfl
    have := k103 ((M s).length - 1) (((M s).length : Int) - 2) (zi ((M s).length : Int)) (zi (((M s).length : Int) / 2 + 1 - 1)) zu zu zu _ (by omega) (by omega) (f3.ms (by omega) (by omega) (f2.ms (by omega) (by omega) w1)) (fun p p0 p1 p2 => by
      have ep : p = ((M s).length : Int) := by omega
      rw [zI_wI, if_neg (by omega), zI_wI, if_pos ⟨rfl, by omega⟩, ubS_out (by omega)]) (fun p p0 p1 p2 => by
      have ep : p = ((M s).length : Int) - 1 := by omega
      rw [zI_wI, if_pos ⟨rfl, by omega⟩, ep]
      omega) ((f1.tr (f2.mono (fun a w => Or.inl (Or.inl w)))).tr (f3.mono (fun a w => Or.inl (Or.inr w))))
    rw [show (((M s).length : Int) - 2 + 1) / 2 = (uD (M s) : Int) - 1 by omega, show (((M s).length / 2 + 1 : Nat) : Int) = ((M s).length : Int) / 2 + 1 by omega] at this
    exact this
  · refine q τ ?_ f1
    have e0 : ubL (M s) = [] := by
      unfold ubL drH
      rw [if_pos (by unfold uD; omega)]
      rfl
    rw [e0]
    exact w1
