/-! join, of the reference: the whole call -/
theorem m_join {Q : ZQ} {σ : ZM} {N : List (Int × List Int)} {S : Int → List Int} {t s d : Int} (h : MI σ S N) (hpS : PtS S) (ht : -2147483648 ≤ t ∧ t ≤ 2147483647) (hs : -2147483648 ≤ s ∧ s ≤ 2147483647) (hd : -2147483648 ≤ d ∧ d ≤ 2147483647) (q0 : joB t s d → Q (zi (-2)) σ)
    (q3 : ¬ joB t s d → anyHk (S s) t → Q (zi (-3)) σ)
    (q4 : ¬ joB t s d → ¬ anyHk (S s) t → 400 < (S s).sum.toNat + t.toNat * sQ (jq S d) t.toNat → Q (zi (-4)) σ)
    (q1 : ¬ joB t s d → ¬ anyHk (S s) t → (S s).sum.toNat + t.toNat * sQ (jq S d) t.toNat ≤ 400 → ∀ σ', MI σ' (upS S s (jL (S s) (jq S d) t.toNat)) (actN S N s) → Fz mbf σ σ' → Q (zi (jL (S s) (jq S d) t.toNat).sum) σ') : WP m_Mod_join 0 [zr 192, zi t, zi s, zi d, zu, zu, zu, zu, zu, zu] [] σ (0, 0) Q := by
  obtain ⟨hS, hN, M, m, hM⟩ := h
  refine r_Mod_join_0 (t_mWidth ht (fun t0 t1 => ?_) (fun c => by simp only [zrI, zrL, zrR, ne_eq, true_and, and_true, true_or, or_true, not_true_eq_false, not_false_eq_true, false_and, and_false, forall_const, true_implies, false_implies, implies_true, reduceCtorEq, Int.reduceEq, Int.reduceNe, Int.reduceLT, Int.reduceLE, Int.reduceNeg, Nat.reduceEqDiff, if_true, if_false, reduceIte, Int.reduceMul, Int.reduceAdd, Int.reduceSub]; exact q0 (by omega)))
  simp only [hS, zrI, zrL, zrR, Shp_wI, Shp_wJ, zR_wI, zR_wJ, zJ_wI, zI_wJ, zobj_wI, zobj_wJ, zarr_wI, zarr_wJ, zS_wI, zS_wJ, o_192, a_193, a_194, a_195, a_196, a_197, a_198, a_199, a_200, a_201, a_202, a_203, a_204, a_205, a_206, a_207, a_208, a_209, a_210, r_192_0, r_192_1, r_192_2, r_192_3, r_192_4, r_192_5, r_192_7, r_192_8, r_192_14, r_192_16, r_192_17, r_192_18, r_192_19, r_192_20, r_192_22, r_192_23, r_192_25, r_192_26, zrI, zrL, zrR, ne_eq, true_and, and_true, true_or, or_true, not_true_eq_false, not_false_eq_true, false_and, and_false, forall_const, true_implies, false_implies, implies_true, reduceCtorEq, Int.reduceEq, Int.reduceNe, Int.reduceLT, Int.reduceLE, Int.reduceNeg, Nat.reduceEqDiff, if_true, if_false, reduceIte, Int.reduceMul, Int.reduceAdd, Int.reduceSub]
  refine t_mSheet hs (fun s0 s1 => ?_) (fun c => by simp only [zrI, zrL, zrR, ne_eq, true_and, and_true, true_or, or_true, not_true_eq_false, not_false_eq_true, false_and, and_false, forall_const, true_implies, false_implies, implies_true, reduceCtorEq, Int.reduceEq, Int.reduceNe, Int.reduceLT, Int.reduceLE, Int.reduceNeg, Nat.reduceEqDiff, if_true, if_false, reduceIte, Int.reduceMul, Int.reduceAdd, Int.reduceSub]; exact q0 (by omega))
  have eM := hM s s0 s1
  have hp := hpS s s0 s1
  have et : t = (t.toNat : Int) := by omega
  generalize t.toNat = tn at *
  subst et
  have hlen := hp.len
  have h4 := hp.2.1
  obtain ⟨g1, g2, g3⟩ := m s s0 (by omega)
  rw [eM] at g1
  have fin : 0 ≤ d → d + tn ≤ 8 → ¬ joB (tn : Int) s d → WP m_Mod_join 45 [zr 192, zi (tn : Int), zi s, zi d, zi 0, zu, zu, zu, zu, zu] [] σ (0, 0) Q := fun d0 d8 hj => by
    have hpq : ∀ r : Nat, r < tn → Pt (jq S d r) := fun r hr => hpS (d + (r : Int)) (by omega) (by omega)
    have eQ : ∀ r : Nat, r < tn → M (d + (r : Int)) = jq S d r := fun r hr => hM _ (by omega) (by omega)
    have hlq : ∀ r : Nat, r < tn → zI σ 195 (d + (r : Int)) = ((jq S d r).length : Int) := fun r hr => by
      rw [(m (d + (r : Int)) (by omega) (by omega)).1, eQ r hr]
    have hW := widN_bd (n := 400) (t := tn) (by omega)
    have k153 : ¬ anyHk (S s) tn → (S s).sum.toNat + tn * sQ (jq S d) tn ≤ 400 → ∀ (g k mo : Nat) (u4 u7 u8 u9 : PV), k + g = tn → (∀ r, r < k → (jq S d r).length ≤ mo) → tn * mo + (S s).length ≤ 400 → WP m_Mod_join 153 [zr 192, zi (tn : Int), zi s, zi d, u4, zi (mo : Int), zi (k : Int), u7, u8, u9] [] σ (0, 0) Q := by
      intro hh hs' g
      induction g with
      | zero =>
        intro k mo u4 u7 u8 u9 hk hmo hb
        obtain ⟨c, hc⟩ := widN_up (n := (S s).length) (m := mo) (t := tn) (by omega) (by omega)
        have hW2 := widN_bd (n := (S s).length) (t := tn) (by omega)
        have ok : JOk (S s) (jq S d) tn (widN (S s).length tn + tn * mo) := JOk.mk' (m := mo) (by omega) (by omega) hp hpq hs' (by omega) (fun r hr => hmo r (by omega)) (by omega)
        have o2 : JOk (S s) (jq S d) tn (widN 400 tn) := JOk.mk' (m := mo) (by omega) (by omega) hp hpq hs' (by omega) (fun r hr => hmo r (by omega)) (by omega)
        have ew : Int.tdiv (((S s).length : Int) + (tn : Int) - 1) (tn : Int) * (tn : Int) = (widN (S s).length tn : Int) := by
          unfold widN
          rw [Int.tdiv_eq_ediv_of_nonneg (by omega), Int.natCast_mul, Int.natCast_ediv, show (((S s).length + tn - 1 : Nat) : Int) = ((S s).length : Int) + (tn : Int) - 1 by omega]
        have ed : 0 ≤ Int.tdiv (((S s).length : Int) + (tn : Int) - 1) (tn : Int) ∧ Int.tdiv (((S s).length : Int) + (tn : Int) - 1) (tn : Int) ≤ ((S s).length : Int) + (tn : Int) - 1 := by
          rw [Int.tdiv_eq_ediv_of_nonneg (by omega)]
          exact ⟨Int.ediv_nonneg (by omega) (by omega), Int.ediv_le_self _ (by omega)⟩
        have em : (tn : Int) * (mo : Int) = ((tn * mo : Nat) : Int) := by rw [Int.natCast_mul]
        have key := t_mJoinB (Q := Q) hS hN m hM s0 s1 d0 d8 ok o2 hc (q1 hj hh hs') u4 (zi (mo : Int)) u8 u9
        rw [Int.natCast_add] at key
        refine r_Mod_join_153 ?_
        simp only [hS, g1, ew, em, zrI, zrL, zrR, Shp_wI, Shp_wJ, zR_wI, zR_wJ, zJ_wI, zI_wJ, zobj_wI, zobj_wJ, zarr_wI, zarr_wJ, zS_wI, zS_wJ, o_192, a_193, a_194, a_195, a_196, a_197, a_198, a_199, a_200, a_201, a_202, a_203, a_204, a_205, a_206, a_207, a_208, a_209, a_210, r_192_0, r_192_1, r_192_2, r_192_3, r_192_4, r_192_5, r_192_7, r_192_8, r_192_14, r_192_16, r_192_17, r_192_18, r_192_19, r_192_20, r_192_22, r_192_23, r_192_25, r_192_26, zrI, zrL, zrR, ne_eq, true_and, and_true, true_or, or_true, not_true_eq_false, not_false_eq_true, false_and, and_false, forall_const, true_implies, false_implies, implies_true, reduceCtorEq, Int.reduceEq, Int.reduceNe, Int.reduceLT, Int.reduceLE, Int.reduceNeg, Nat.reduceEqDiff, if_true, if_false, reduceIte, Int.reduceMul, Int.reduceAdd, Int.reduceSub]
        exact ⟨fun _ => ⟨by omega, by omega, by omega, by omega, by omega, by omega, by omega, by omega, key⟩, fun c => by omega⟩
      | succ g ih =>
        intro k mo u4 u7 u8 u9 hk hmo hb
        have hlk := hlq k (by omega)
        have hll := JOk.len hp (hpq k (by omega)) hs' (show k < tn by omega)
        refine r_Mod_join_153 ?_
        simp only [hS, hlk, zrI, zrL, zrR, Shp_wI, Shp_wJ, zR_wI, zR_wJ, zJ_wI, zI_wJ, zobj_wI, zobj_wJ, zarr_wI, zarr_wJ, zS_wI, zS_wJ, o_192, a_193, a_194, a_195, a_196, a_197, a_198, a_199, a_200, a_201, a_202, a_203, a_204, a_205, a_206, a_207, a_208, a_209, a_210, r_192_0, r_192_1, r_192_2, r_192_3, r_192_4, r_192_5, r_192_7, r_192_8, r_192_14, r_192_16, r_192_17, r_192_18, r_192_19, r_192_20, r_192_22, r_192_23, r_192_25, r_192_26, zrI, zrL, zrR, ne_eq, true_and, and_true, true_or, or_true, not_true_eq_false, not_false_eq_true, false_and, and_false, forall_const, true_implies, false_implies, implies_true, reduceCtorEq, Int.reduceEq, Int.reduceNe, Int.reduceLT, Int.reduceLE, Int.reduceNeg, Nat.reduceEqDiff, if_true, if_false, reduceIte, Int.reduceMul, Int.reduceAdd, Int.reduceSub]
        refine ⟨fun c => by omega, fun _ => ⟨by omega, by omega, fun c => ⟨by omega, ?_⟩, fun c => ⟨by omega, by omega, by omega, ?_⟩⟩⟩
        · have := ih (k + 1) mo (zkill u4) u7 u8 u9 (by omega) (fun r hr => by
            by_cases e : r = k
            · rw [e]; omega
            · exact hmo r (by omega)) hb
          rw [Int.natCast_succ] at this
          exact this
        · have := ih (k + 1) (jq S d k).length (zkill u4) u7 u8 u9 (by omega) (fun r hr => by
            by_cases e : r = k
            · rw [e]; omega
            · have := hmo r (by omega); omega) hll
          rw [Int.natCast_succ] at this
          exact this
    have k109 : ¬ anyHk (S s) tn → ∀ (g k : Nat) (u6 u7 u8 u9 : PV), k + g = tn → WP m_Mod_join 109 [zr 192, zi (tn : Int), zi s, zi d, zi (((S s).sum.toNat + tn * sN (fun r => (jq S d r).sum.toNat) k : Nat) : Int), zi (k : Int), u6, u7, u8, u9] [] σ (0, 0) Q := by
      intro hh g
      induction g with
      | zero =>
        intro k u6 u7 u8 u9 hk
        rw [show k = tn by omega]
        refine r_Mod_join_109 ⟨fun _ => ⟨fun c => ?_, fun c => q4 hj hh (by unfold sQ; omega)⟩, fun c => by omega⟩
        exact k153 hh (by unfold sQ; omega) tn 0 0 _ _ _ _ (by omega) (fun r hr => by omega) (by omega)
      | succ g ih =>
        intro k u6 u7 u8 u9 hk
        have hpk := hpq k (by omega)
        have eqk := eQ k (by omega)
        have hk0 := sum_pos _ hpk.1
        have hk4 := hpk.2.1
        have esn : sN (fun r => (jq S d r).sum.toNat) (k + 1) = sN (fun r => (jq S d r).sum.toNat) k + (jq S d k).sum.toNat := rfl
        have hb : sN (fun r => (jq S d r).sum.toNat) k ≤ 400 * k := by
          have h1 : ∀ j, j ≤ tn → sN (fun r => (jq S d r).sum.toNat) j ≤ 400 * j := by
            intro j
            induction j with
            | zero => intro _; exact Nat.le_refl _
            | succ j ihj =>
              intro hj
              have := ihj (by omega)
              have h2 := (hpq j (by omega)).2.1
              have h3 : sN (fun r => (jq S d r).sum.toNat) (j + 1) = sN (fun r => (jq S d r).sum.toNat) j + (jq S d j).sum.toNat := rfl
              omega
          exact h1 k (by omega)
        have hb2 : tn * sN (fun r => (jq S d r).sum.toNat) k ≤ 12 * 4800 := Nat.mul_le_mul (by omega) (by omega)
        have hb3 : tn * (jq S d k).sum.toNat ≤ 12 * 400 := Nat.mul_le_mul (by omega) (by omega)
        have ihk := ih (k + 1) u6 u7 u8 u9 (by omega)
        rw [esn, Nat.mul_add] at ihk
        have em : (tn : Int) * (jq S d k).sum = ((tn * (jq S d k).sum.toNat : Nat) : Int) := by rw [Int.natCast_mul, Int.toNat_of_nonneg (by omega)]
        rw [show (((S s).sum.toNat + (tn * sN (fun r => (jq S d r).sum.toNat) k + tn * (jq S d k).sum.toNat) : Nat) : Int) = (((S s).sum.toNat + tn * sN (fun r => (jq S d r).sum.toNat) k : Nat) : Int) + ((tn * (jq S d k).sum.toNat : Nat) : Int) by omega, Int.natCast_succ] at ihk
        refine r_Mod_join_109 ?_
        simp only [hS, zrI, zrL, zrR, Shp_wI, Shp_wJ, zR_wI, zR_wJ, zJ_wI, zI_wJ, zobj_wI, zobj_wJ, zarr_wI, zarr_wJ, zS_wI, zS_wJ, o_192, a_193, a_194, a_195, a_196, a_197, a_198, a_199, a_200, a_201, a_202, a_203, a_204, a_205, a_206, a_207, a_208, a_209, a_210, r_192_0, r_192_1, r_192_2, r_192_3, r_192_4, r_192_5, r_192_7, r_192_8, r_192_14, r_192_16, r_192_17, r_192_18, r_192_19, r_192_20, r_192_22, r_192_23, r_192_25, r_192_26, zrI, zrL, zrR, ne_eq, true_and, and_true, true_or, or_true, not_true_eq_false, not_false_eq_true, false_and, and_false, forall_const, true_implies, false_implies, implies_true, reduceCtorEq, Int.reduceEq, Int.reduceNe, Int.reduceLT, Int.reduceLE, Int.reduceNeg, Nat.reduceEqDiff, if_true, if_false, reduceIte, Int.reduceMul, Int.reduceAdd, Int.reduceSub]
        refine ⟨fun c => by omega, fun _ => ⟨by omega, t_mSize hS m (by omega) (by omega) (by rw [eqk]; exact hpk) ?_⟩⟩
        rw [eqk]
        simp only [em, zrI, zrL, zrR, ne_eq, true_and, and_true, true_or, or_true, not_true_eq_false, not_false_eq_true, false_and, and_false, forall_const, true_implies, false_implies, implies_true, reduceCtorEq, Int.reduceEq, Int.reduceNe, Int.reduceLT, Int.reduceLE, Int.reduceNeg, Nat.reduceEqDiff, if_true, if_false, reduceIte, Int.reduceMul, Int.reduceAdd, Int.reduceSub]
        exact ⟨by omega, by omega, by omega, ihk⟩
    have k45 : ∀ (g : Nat) (i : Int) (u5 u6 u7 u8 u9 : PV), 0 ≤ i → i + g = ((S s).length : Int) → (∀ y, 0 ≤ y → y < i → ¬ hasHk (S s) tn y) → WP m_Mod_join 45 [zr 192, zi (tn : Int), zi s, zi d, zi i, u5, u6, u7, u8, u9] [] σ (0, 0) Q := by
      intro g
      induction g with
      | zero =>
        intro i u5 u6 u7 u8 u9 i0 hi hn
        refine r_Mod_join_45 ?_
        simp only [hS, g1, zrI, zrL, zrR, Shp_wI, Shp_wJ, zR_wI, zR_wJ, zJ_wI, zI_wJ, zobj_wI, zobj_wJ, zarr_wI, zarr_wJ, zS_wI, zS_wJ, o_192, a_193, a_194, a_195, a_196, a_197, a_198, a_199, a_200, a_201, a_202, a_203, a_204, a_205, a_206, a_207, a_208, a_209, a_210, r_192_0, r_192_1, r_192_2, r_192_3, r_192_4, r_192_5, r_192_7, r_192_8, r_192_14, r_192_16, r_192_17, r_192_18, r_192_19, r_192_20, r_192_22, r_192_23, r_192_25, r_192_26, zrI, zrL, zrR, ne_eq, true_and, and_true, true_or, or_true, not_true_eq_false, not_false_eq_true, false_and, and_false, forall_const, true_implies, false_implies, implies_true, reduceCtorEq, Int.reduceEq, Int.reduceNe, Int.reduceLT, Int.reduceLE, Int.reduceNeg, Nat.reduceEqDiff, if_true, if_false, reduceIte, Int.reduceMul, Int.reduceAdd, Int.reduceSub]
        refine ⟨by omega, fun _ => t_mSize hS m s0 (by omega) (by rw [eM]; exact hp) ?_, fun c => by omega⟩
        rw [eM]
        simp only [zrI, zrL, zrR, ne_eq, true_and, and_true, true_or, or_true, not_true_eq_false, not_false_eq_true, false_and, and_false, forall_const, true_implies, false_implies, implies_true, reduceCtorEq, Int.reduceEq, Int.reduceNe, Int.reduceLT, Int.reduceLE, Int.reduceNeg, Nat.reduceEqDiff, if_true, if_false, reduceIte, Int.reduceMul, Int.reduceAdd, Int.reduceSub]
        have hs0 := sum_pos (S s) hp.1
        have := k109 (fun ⟨y, y0, y1, w⟩ => hn y y0 (by omega) w) tn 0 u6 u7 u8 u9 (by omega)
        rw [show (((S s).sum.toNat + tn * sN (fun r => (jq S d r).sum.toNat) 0 : Nat) : Int) = (S s).sum by show (((S s).sum.toNat + tn * 0 : Nat) : Int) = _; omega] at this
        exact this
      | succ g ih =>
        intro i u5 u6 u7 u8 u9 i0 hi hn
        have hr := hp.rng i
        have k59 : ∀ (e : Nat) (j : Int), 0 ≤ j → j + e = ga (S s) i → (∀ z, 0 ≤ z → z < j → hkN (S s) i z ≠ tn) → WP m_Mod_join 59 [zr 192, zi (tn : Int), zi s, zi d, zi i, zi j, u6, u7, u8, u9] [] σ (0, 0) Q := by
          intro e
          induction e with
          | zero =>
            intro j j0 hj2 hz
            refine r_Mod_join_59 ?_
            simp only [hS, zrI, zrL, zrR, Shp_wI, Shp_wJ, zR_wI, zR_wJ, zJ_wI, zI_wJ, zobj_wI, zobj_wJ, zarr_wI, zarr_wJ, zS_wI, zS_wJ, o_192, a_193, a_194, a_195, a_196, a_197, a_198, a_199, a_200, a_201, a_202, a_203, a_204, a_205, a_206, a_207, a_208, a_209, a_210, r_192_0, r_192_1, r_192_2, r_192_3, r_192_4, r_192_5, r_192_7, r_192_8, r_192_14, r_192_16, r_192_17, r_192_18, r_192_19, r_192_20, r_192_22, r_192_23, r_192_25, r_192_26, zrI, zrL, zrR, ne_eq, true_and, and_true, true_or, or_true, not_true_eq_false, not_false_eq_true, false_and, and_false, forall_const, true_implies, false_implies, implies_true, reduceCtorEq, Int.reduceEq, Int.reduceNe, Int.reduceLT, Int.reduceLE, Int.reduceNeg, Nat.reduceEqDiff, if_true, if_false, reduceIte, Int.reduceMul, Int.reduceAdd, Int.reduceSub]
            refine t_mAt hS m s0 (by omega) i0 ?_
            rw [eM]
            simp only [zrI, zrL, zrR, ne_eq, true_and, and_true, true_or, or_true, not_true_eq_false, not_false_eq_true, false_and, and_false, forall_const, true_implies, false_implies, implies_true, reduceCtorEq, Int.reduceEq, Int.reduceNe, Int.reduceLT, Int.reduceLE, Int.reduceNeg, Nat.reduceEqDiff, if_true, if_false, reduceIte, Int.reduceMul, Int.reduceAdd, Int.reduceSub]
            refine ⟨fun _ => ⟨by omega, ih (i + 1) _ _ _ _ _ (by omega) (by omega) (fun y y0 y1 => ?_)⟩, fun c => by omega⟩
            by_cases ey : y = i
            · rw [ey]
              exact fun ⟨z, z0, z1, w⟩ => hz z z0 (by omega) w
            · exact hn y y0 (by omega)
          | succ e ihe =>
            intro j j0 hj2 hz
            refine r_Mod_join_59 ?_
            simp only [hS, zrI, zrL, zrR, Shp_wI, Shp_wJ, zR_wI, zR_wJ, zJ_wI, zI_wJ, zobj_wI, zobj_wJ, zarr_wI, zarr_wJ, zS_wI, zS_wJ, o_192, a_193, a_194, a_195, a_196, a_197, a_198, a_199, a_200, a_201, a_202, a_203, a_204, a_205, a_206, a_207, a_208, a_209, a_210, r_192_0, r_192_1, r_192_2, r_192_3, r_192_4, r_192_5, r_192_7, r_192_8, r_192_14, r_192_16, r_192_17, r_192_18, r_192_19, r_192_20, r_192_22, r_192_23, r_192_25, r_192_26, zrI, zrL, zrR, ne_eq, true_and, and_true, true_or, or_true, not_true_eq_false, not_false_eq_true, false_and, and_false, forall_const, true_implies, false_implies, implies_true, reduceCtorEq, Int.reduceEq, Int.reduceNe, Int.reduceLT, Int.reduceLE, Int.reduceNeg, Nat.reduceEqDiff, if_true, if_false, reduceIte, Int.reduceMul, Int.reduceAdd, Int.reduceSub]
            refine t_mAt hS m s0 (by omega) i0 ?_
            rw [eM]
            simp only [hS, zrI, zrL, zrR, Shp_wI, Shp_wJ, zR_wI, zR_wJ, zJ_wI, zI_wJ, zobj_wI, zobj_wJ, zarr_wI, zarr_wJ, zS_wI, zS_wJ, o_192, a_193, a_194, a_195, a_196, a_197, a_198, a_199, a_200, a_201, a_202, a_203, a_204, a_205, a_206, a_207, a_208, a_209, a_210, r_192_0, r_192_1, r_192_2, r_192_3, r_192_4, r_192_5, r_192_7, r_192_8, r_192_14, r_192_16, r_192_17, r_192_18, r_192_19, r_192_20, r_192_22, r_192_23, r_192_25, r_192_26, zrI, zrL, zrR, ne_eq, true_and, and_true, true_or, or_true, not_true_eq_false, not_false_eq_true, false_and, and_false, forall_const, true_implies, false_implies, implies_true, reduceCtorEq, Int.reduceEq, Int.reduceNe, Int.reduceLT, Int.reduceLE, Int.reduceNeg, Nat.reduceEqDiff, if_true, if_false, reduceIte, Int.reduceMul, Int.reduceAdd, Int.reduceSub]
            refine ⟨fun c => by omega, fun c => t_mHookOf hS m s0 (by omega) (by rw [eM]; exact hp) i0 j0 (by rw [eM]; exact c) ?_⟩
            rw [eM]
            simp only [zrI, zrL, zrR, ne_eq, true_and, and_true, true_or, or_true, not_true_eq_false, not_false_eq_true, false_and, and_false, forall_const, true_implies, false_implies, implies_true, reduceCtorEq, Int.reduceEq, Int.reduceNe, Int.reduceLT, Int.reduceLE, Int.reduceNeg, Nat.reduceEqDiff, if_true, if_false, reduceIte, Int.reduceMul, Int.reduceAdd, Int.reduceSub]
            refine ⟨fun c2 => ⟨by omega, ihe (j + 1) (by omega) (by omega) (fun z z0 z1 => ?_)⟩, fun c2 => q3 hj ⟨i, i0, by omega, j, j0, c, c2⟩⟩
            by_cases ez : z = j
            · rw [ez]; exact c2
            · exact hz z z0 (by omega)
        refine r_Mod_join_45 ?_
        simp only [hS, g1, zrI, zrL, zrR, Shp_wI, Shp_wJ, zR_wI, zR_wJ, zJ_wI, zI_wJ, zobj_wI, zobj_wJ, zarr_wI, zarr_wJ, zS_wI, zS_wJ, o_192, a_193, a_194, a_195, a_196, a_197, a_198, a_199, a_200, a_201, a_202, a_203, a_204, a_205, a_206, a_207, a_208, a_209, a_210, r_192_0, r_192_1, r_192_2, r_192_3, r_192_4, r_192_5, r_192_7, r_192_8, r_192_14, r_192_16, r_192_17, r_192_18, r_192_19, r_192_20, r_192_22, r_192_23, r_192_25, r_192_26, zrI, zrL, zrR, ne_eq, true_and, and_true, true_or, or_true, not_true_eq_false, not_false_eq_true, false_and, and_false, forall_const, true_implies, false_implies, implies_true, reduceCtorEq, Int.reduceEq, Int.reduceNe, Int.reduceLT, Int.reduceLE, Int.reduceNeg, Nat.reduceEqDiff, if_true, if_false, reduceIte, Int.reduceMul, Int.reduceAdd, Int.reduceSub]
        exact ⟨by omega, fun c => by omega, fun _ => k59 (ga (S s) i).toNat 0 (by omega) (by omega) (fun z z0 z1 => by omega)⟩
    exact k45 (S s).length 0 _ _ _ _ _ (by omega) (by omega) (fun y y0 y1 => by omega)
  simp only [hS, zrI, zrL, zrR, Shp_wI, Shp_wJ, zR_wI, zR_wJ, zJ_wI, zI_wJ, zobj_wI, zobj_wJ, zarr_wI, zarr_wJ, zS_wI, zS_wJ, o_192, a_193, a_194, a_195, a_196, a_197, a_198, a_199, a_200, a_201, a_202, a_203, a_204, a_205, a_206, a_207, a_208, a_209, a_210, r_192_0, r_192_1, r_192_2, r_192_3, r_192_4, r_192_5, r_192_7, r_192_8, r_192_14, r_192_16, r_192_17, r_192_18, r_192_19, r_192_20, r_192_22, r_192_23, r_192_25, r_192_26, zrI, zrL, zrR, ne_eq, true_and, and_true, true_or, or_true, not_true_eq_false, not_false_eq_true, false_and, and_false, forall_const, true_implies, false_implies, implies_true, reduceCtorEq, Int.reduceEq, Int.reduceNe, Int.reduceLT, Int.reduceLE, Int.reduceNeg, Nat.reduceEqDiff, if_true, if_false, reduceIte, Int.reduceMul, Int.reduceAdd, Int.reduceSub]
  exact ⟨fun c => q0 (by omega), fun d0 => ⟨by omega, fun c => q0 (by omega), fun c => ⟨fun c2 => fin d0 (by omega) (by omega), fun c2 => ⟨by omega, fun c3 => fin d0 (by omega) (by omega), fun c3 => q0 (by omega)⟩⟩⟩⟩
