/-! heap, of the reference -/
theorem t_mTwoV {Q : ZQ} {σ : ZM} {r w : Int} (hS : Shp σ) (hV : MTwoV σ) (w0 : 0 ≤ w) (w1 : w ≤ 60) (r0 : 0 ≤ r) (r1 : r ≤ 60) (q : Q (zl (Int64.ofNat (T2 w.toNat r.toNat))) σ) : WP m_Mod_two 0 [zr 192, zi r, zi w] [] σ (0, 0) Q := by
  have := hV w.toNat r.toNat (by omega) (by omega)
  rw [show (w.toNat : Int) = w by omega, show (r.toNat : Int) = r by omega] at this
  refine r_Mod_two_0 ?_
  simp only [hS, this, zrI, zrL, zrR, Shp_wI, Shp_wJ, zR_wI, zR_wJ, zJ_wI, zI_wJ, zobj_wI, zobj_wJ, zarr_wI, zarr_wJ, zS_wI, zS_wJ, o_192, a_193, a_194, a_195, a_196, a_197, a_198, a_199, a_200, a_201, a_202, a_203, a_204, a_205, a_206, a_207, a_208, a_209, a_210, r_192_0, r_192_1, r_192_2, r_192_3, r_192_4, r_192_5, r_192_7, r_192_8, r_192_14, r_192_16, r_192_17, r_192_18, r_192_19, r_192_20, r_192_22, r_192_23, r_192_25, r_192_26, zrI, zrL, zrR, ne_eq, true_and, and_true, true_or, or_true, not_true_eq_false, not_false_eq_true, false_and, and_false, forall_const, true_implies, false_implies, implies_true, reduceCtorEq, Int.reduceEq, Int.reduceNe, Int.reduceLT, Int.reduceLE, Int.reduceNeg, Nat.reduceEqDiff, if_true, if_false, reduceIte, Int.reduceMul, Int.reduceAdd, Int.reduceSub]
  exact ⟨fun _ => ⟨by omega, by omega, by omega, q⟩, fun c => by omega⟩
theorem t_mTwo {Q : ZQ} {σ : ZM} {r w : Int} (hS : Shp σ) (w0 : 0 ≤ w) (w1 : w ≤ 60) (r0 : 0 ≤ r) (r1 : r ≤ 60) (q : Q (zl (zJ σ 208 (61 * w + r))) σ) : WP m_Mod_two 0 [zr 192, zi r, zi w] [] σ (0, 0) Q := by
  refine r_Mod_two_0 ?_
  simp only [hS, zrI, zrL, zrR, Shp_wI, Shp_wJ, zR_wI, zR_wJ, zJ_wI, zI_wJ, zobj_wI, zobj_wJ, zarr_wI, zarr_wJ, zS_wI, zS_wJ, o_192, a_193, a_194, a_195, a_196, a_197, a_198, a_199, a_200, a_201, a_202, a_203, a_204, a_205, a_206, a_207, a_208, a_209, a_210, r_192_0, r_192_1, r_192_2, r_192_3, r_192_4, r_192_5, r_192_7, r_192_8, r_192_14, r_192_16, r_192_17, r_192_18, r_192_19, r_192_20, r_192_22, r_192_23, r_192_25, r_192_26, zrI, zrL, zrR, ne_eq, true_and, and_true, true_or, or_true, not_true_eq_false, not_false_eq_true, false_and, and_false, forall_const, true_implies, false_implies, implies_true, reduceCtorEq, Int.reduceEq, Int.reduceNe, Int.reduceLT, Int.reduceLE, Int.reduceNeg, Nat.reduceEqDiff, if_true, if_false, reduceIte, Int.reduceMul, Int.reduceAdd, Int.reduceSub]
  exact ⟨fun _ => ⟨by omega, by omega, by omega, q⟩, fun c => by omega⟩
theorem t_mMakeTwos {Q : ZQ} {σ : ZM} (hS : Shp σ) (hB : MTwoI σ) (k : ∀ σ', MTwoV σ' → Fz (fun a j => a = 208 ∨ (a = 192 ∧ j = 24)) σ σ' → Q zu σ') : WP m_Mod_makeTwos 0 [zr 192, zu, zu, zu, zu] [] σ (0, 0) Q := by
  refine r_Mod_makeTwos_0 ?_
  simp only [hS, zrI, zrL, zrR, Shp_wI, Shp_wJ, zR_wI, zR_wJ, zJ_wI, zI_wJ, zobj_wI, zobj_wJ, zarr_wI, zarr_wJ, zS_wI, zS_wJ, o_192, a_193, a_194, a_195, a_196, a_197, a_198, a_199, a_200, a_201, a_202, a_203, a_204, a_205, a_206, a_207, a_208, a_209, a_210, r_192_0, r_192_1, r_192_2, r_192_3, r_192_4, r_192_5, r_192_7, r_192_8, r_192_14, r_192_16, r_192_17, r_192_18, r_192_19, r_192_20, r_192_22, r_192_23, r_192_25, r_192_26, zrI, zrL, zrR, ne_eq, true_and, and_true, true_or, or_true, not_true_eq_false, not_false_eq_true, false_and, and_false, forall_const, true_implies, false_implies, implies_true, reduceCtorEq, Int.reduceEq, Int.reduceNe, Int.reduceLT, Int.reduceLE, Int.reduceNeg, Nat.reduceEqDiff, if_true, if_false, reduceIte, Int.reduceMul, Int.reduceAdd, Int.reduceSub]
  refine ⟨fun c => ?_, fun c => ?_⟩
  · have l2 : ∀ (w : Nat), w ≤ 60 → (∀ (τ : ZM) (u2 u3 u4 : PV), (∀ w' r' : Nat, w' ≤ 60 → r' ≤ 60 → w' < w + 1 → zJ τ 208 (61 * (w' : Int) + (r' : Int)) = Int64.ofNat (T2 w' r')) → Fz (fun a j => a = 208 ∨ (a = 192 ∧ j = 24)) σ τ → WP m_Mod_makeTwos 15 [zr 192, zi ((w : Int) + 1), u2, u3, u4] [] τ (0, 0) Q) →
        ∀ (m r : Nat) (τ : ZM) (u3 u4 : PV), r + m = 61 → (∀ w' r' : Nat, w' ≤ 60 → r' ≤ 60 → (w' < w ∨ (w' = w ∧ r' < r)) → zJ τ 208 (61 * (w' : Int) + (r' : Int)) = Int64.ofNat (T2 w' r')) → Fz (fun a j => a = 208 ∨ (a = 192 ∧ j = 24)) σ τ → WP m_Mod_makeTwos 23 [zr 192, zi (w : Int), zi (r : Int), u3, u4] [] τ (0, 0) Q := by
      intro w w6 next m
      induction m with
      | zero =>
        intro r τ u3 u4 hm hv f
        exact r_Mod_makeTwos_23 ⟨fun _ => ⟨by omega, next τ _ _ _ (fun w' r' a b c => hv w' r' a b (by omega)) f⟩, fun c => by omega⟩
      | succ m ih =>
        intro r τ u3 u4 hm hv f
        have hT := f.shp hS
        have go : ∀ (x : Int64) (u3 u4 : PV), x = Int64.ofNat (T2 w r) → WP m_Mod_makeTwos 23 [zr 192, zi (w : Int), zi ((r : Int) + 1), u3, u4] [] (wJ τ 208 (61 * (w : Int) + (r : Int)) x) (0, 0) Q := fun x u3 u4 hx => by
          have := ih (r + 1) (wJ τ 208 (61 * (w : Int) + (r : Int)) x) u3 u4 (by omega) (fun w' r' a b c => ?_) (f.tr (Fz.wJ (Or.inl rfl)))
          · rw [Int.natCast_succ] at this
            exact this
          · rw [zJ_wJ]
            by_cases e : w' = w ∧ r' = r
            · rw [if_pos ⟨rfl, by omega⟩, e.1, e.2, hx]
            · rw [if_neg (by omega)]
              exact hv w' r' a b (by omega)
        refine r_Mod_makeTwos_23 ?_
        simp only [hT, zrI, zrL, zrR, Shp_wI, Shp_wJ, zR_wI, zR_wJ, zJ_wI, zI_wJ, zobj_wI, zobj_wJ, zarr_wI, zarr_wJ, zS_wI, zS_wJ, o_192, a_193, a_194, a_195, a_196, a_197, a_198, a_199, a_200, a_201, a_202, a_203, a_204, a_205, a_206, a_207, a_208, a_209, a_210, r_192_0, r_192_1, r_192_2, r_192_3, r_192_4, r_192_5, r_192_7, r_192_8, r_192_14, r_192_16, r_192_17, r_192_18, r_192_19, r_192_20, r_192_22, r_192_23, r_192_25, r_192_26, zrI, zrL, zrR, ne_eq, true_and, and_true, true_or, or_true, not_true_eq_false, not_false_eq_true, false_and, and_false, forall_const, true_implies, false_implies, implies_true, reduceCtorEq, Int.reduceEq, Int.reduceNe, Int.reduceLT, Int.reduceLE, Int.reduceNeg, Nat.reduceEqDiff, if_true, if_false, reduceIte, Int.reduceMul, Int.reduceAdd, Int.reduceSub]
        refine ⟨fun c => by omega, fun _ => ⟨fun c => ⟨by omega, t_mTwo hT (by omega) (by omega) (by omega) (by omega) ?_⟩, fun c => ⟨fun c2 => ⟨by omega, by omega, by omega, by omega, go _ _ _ ?_⟩, fun c2 => ⟨by omega, by omega, by omega, by omega, go _ _ _ ?_⟩⟩⟩⟩
        · obtain ⟨w', rfl⟩ : ∃ w', w = w' + 1 := ⟨w - 1, by omega⟩
          have e1 := hv w' r (by omega) (by omega) (by omega)
          have hrec := T2_rec (w := w') (n := r) (by omega) (by omega)
          rw [show ((w' + 1 : Nat) : Int) - 1 = (w' : Int) by omega, e1]
          simp only [hT, zrI, zrL, zrR, Shp_wI, Shp_wJ, zR_wI, zR_wJ, zJ_wI, zI_wJ, zobj_wI, zobj_wJ, zarr_wI, zarr_wJ, zS_wI, zS_wJ, o_192, a_193, a_194, a_195, a_196, a_197, a_198, a_199, a_200, a_201, a_202, a_203, a_204, a_205, a_206, a_207, a_208, a_209, a_210, r_192_0, r_192_1, r_192_2, r_192_3, r_192_4, r_192_5, r_192_7, r_192_8, r_192_14, r_192_16, r_192_17, r_192_18, r_192_19, r_192_20, r_192_22, r_192_23, r_192_25, r_192_26, zrI, zrL, zrR, ne_eq, true_and, and_true, true_or, or_true, not_true_eq_false, not_false_eq_true, false_and, and_false, forall_const, true_implies, false_implies, implies_true, reduceCtorEq, Int.reduceEq, Int.reduceNe, Int.reduceLT, Int.reduceLE, Int.reduceNeg, Nat.reduceEqDiff, if_true, if_false, reduceIte, Int.reduceMul, Int.reduceAdd, Int.reduceSub]
          refine ⟨fun c2 => ⟨by omega, by omega, by omega, by omega, go _ _ _ ?_⟩, fun c2 => ⟨by omega, t_mTwo hT (by omega) (by omega) (by omega) (by omega) ?_⟩⟩
          · rw [hrec, if_neg (by omega), Nat.add_zero]
            simp
          · have e2 := hv (w' + 1) (r - (w' + 1)) (by omega) (by omega) (by omega)
            rw [show ((r - (w' + 1) : Nat) : Int) = (r : Int) - ((w' + 1 : Nat) : Int) by omega] at e2
            rw [e2]
            simp only [hT, zrI, zrL, zrR, Shp_wI, Shp_wJ, zR_wI, zR_wJ, zJ_wI, zI_wJ, zobj_wI, zobj_wJ, zarr_wI, zarr_wJ, zS_wI, zS_wJ, o_192, a_193, a_194, a_195, a_196, a_197, a_198, a_199, a_200, a_201, a_202, a_203, a_204, a_205, a_206, a_207, a_208, a_209, a_210, r_192_0, r_192_1, r_192_2, r_192_3, r_192_4, r_192_5, r_192_7, r_192_8, r_192_14, r_192_16, r_192_17, r_192_18, r_192_19, r_192_20, r_192_22, r_192_23, r_192_25, r_192_26, zrI, zrL, zrR, ne_eq, true_and, and_true, true_or, or_true, not_true_eq_false, not_false_eq_true, false_and, and_false, forall_const, true_implies, false_implies, implies_true, reduceCtorEq, Int.reduceEq, Int.reduceNe, Int.reduceLT, Int.reduceLE, Int.reduceNeg, Nat.reduceEqDiff, if_true, if_false, reduceIte, Int.reduceMul, Int.reduceAdd, Int.reduceSub]
            refine ⟨by omega, by omega, by omega, by omega, go _ _ _ ?_⟩
            rw [hrec, if_pos (by omega), Int64.ofNat_add]
        · rw [T2_low (by omega), if_neg (by omega)]; rfl
        · rw [T2_low (by omega), if_pos (by omega)]; rfl
    have l1 : ∀ (m w : Nat) (τ : ZM) (u2 u3 u4 : PV), w + m = 61 → (∀ w' r' : Nat, w' ≤ 60 → r' ≤ 60 → w' < w → zJ τ 208 (61 * (w' : Int) + (r' : Int)) = Int64.ofNat (T2 w' r')) → Fz (fun a j => a = 208 ∨ (a = 192 ∧ j = 24)) σ τ → WP m_Mod_makeTwos 15 [zr 192, zi (w : Int), u2, u3, u4] [] τ (0, 0) Q := by
      intro m
      induction m with
      | zero =>
        intro w τ u2 u3 u4 hm hv f
        exact r_Mod_makeTwos_15 ⟨fun _ => k τ (fun w' r' a b => hv w' r' a b (by omega)) f, fun c => by omega⟩
      | succ m ih =>
        intro w τ u2 u3 u4 hm hv f
        refine r_Mod_makeTwos_15 ⟨fun c => by omega, fun _ => ?_⟩
        exact l2 w (by omega) (fun τ' a1 a2 a3 h1 h2 => by
          have := ih (w + 1) τ' a1 a2 a3 (by omega) h1 h2
          rw [Int.natCast_succ] at this
          exact this) 61 0 τ _ _ (by omega) (fun w' r' a b c => hv w' r' a b (by omega)) f
    exact l1 61 0 _ _ _ _ (by omega) (fun w' r' a b c => by omega) (Fz.wI (Or.inr ⟨rfl, rfl⟩))
  · rcases hB with e | e
    · exact absurd e c
    · exact k σ e Fz.rf
theorem t_mWithOnes {Q : ZQ} {σ : ZM} {n w j : Int} (hS : Shp σ) (hB : MBoxV σ) (h2 : MTwoV σ) (n6 : n ≤ 60) (w1 : 1 ≤ w) (wn : w ≤ n) (j0 : 0 ≤ j) (j6 : j ≤ 60) (q : Q (zl (wOn n w j)) σ) : WP m_Mod_withOnes 0 [zr 192, zi n, zi w, zi j, zu, zu, zu, zu] [] σ (0, 0) Q := by
  have hb := mul_bd (x := j) (y := w) (X := 60) (Y := 60) (by omega) (by omega)
  have hnn : 0 ≤ j * w := Int.mul_nonneg (by omega) (by omega)
  have hjw : j * (w + 1) = j * w + j := by rw [Int.mul_add, Int.mul_one]
  have hfr : n - w - j * (w + 1) = n - w - j * w - j := by omega
  have ew : wOn n w j = sI (fun i => Int64.ofNat (T2 w.toNat i) * (if n - w - (i : Int) - j * w - j < 0 then 0 else Int64.ofNat (BB j.toNat 60 (n - w - (i : Int) - j * w - j).toNat))) (n - w + 1).toNat := by
    unfold wOn
    rw [hfr]
    rw [sI_tail (k := (n - w - j * w - j + 1).toNat) (n - w + 1).toNat (by omega) (fun i a b => by rw [if_pos (by omega)]; simp)]
    refine sI_ext _ (fun i hi => ?_)
    rw [if_neg (by omega), show (n - w - j * w - j).toNat - i = (n - w - (i : Int) - j * w - j).toNat by omega]
  rw [ew] at q
  have key : ∀ (g i : Nat) (u7 : PV), (i : Int) + g = n - w + 1 → WP m_Mod_withOnes 6 [zr 192, zi n, zi w, zi j, zl (sI (fun i => Int64.ofNat (T2 w.toNat i) * (if n - w - (i : Int) - j * w - j < 0 then 0 else Int64.ofNat (BB j.toNat 60 (n - w - (i : Int) - j * w - j).toNat))) i), zu, zi (i : Int), u7] [] σ (0, 0) Q := by
    intro g
    induction g with
    | zero =>
      intro i u7 hi
      rw [show (n - w + 1).toNat = i by omega] at q
      refine r_Mod_withOnes_6 ⟨by omega, fun _ => q, fun c => by omega⟩
    | succ g ih =>
      intro i u7 hi
      refine r_Mod_withOnes_6 ?_
      simp only [hS, zrI, zrL, zrR, Shp_wI, Shp_wJ, zR_wI, zR_wJ, zJ_wI, zI_wJ, zobj_wI, zobj_wJ, zarr_wI, zarr_wJ, zS_wI, zS_wJ, o_192, a_193, a_194, a_195, a_196, a_197, a_198, a_199, a_200, a_201, a_202, a_203, a_204, a_205, a_206, a_207, a_208, a_209, a_210, r_192_0, r_192_1, r_192_2, r_192_3, r_192_4, r_192_5, r_192_7, r_192_8, r_192_14, r_192_16, r_192_17, r_192_18, r_192_19, r_192_20, r_192_22, r_192_23, r_192_25, r_192_26, zrI, zrL, zrR, ne_eq, true_and, and_true, true_or, or_true, not_true_eq_false, not_false_eq_true, false_and, and_false, forall_const, true_implies, false_implies, implies_true, reduceCtorEq, Int.reduceEq, Int.reduceNe, Int.reduceLT, Int.reduceLE, Int.reduceNeg, Nat.reduceEqDiff, if_true, if_false, reduceIte, Int.reduceMul, Int.reduceAdd, Int.reduceSub]
      refine ⟨by omega, fun c => by omega, fun _ => ⟨by omega, by omega, by omega, by omega, by omega, t_mTwoV hS h2 (by omega) (by omega) (by omega) (by omega) ?_⟩⟩
      simp only [hS, zrI, zrL, zrR, Shp_wI, Shp_wJ, zR_wI, zR_wJ, zJ_wI, zI_wJ, zobj_wI, zobj_wJ, zarr_wI, zarr_wJ, zS_wI, zS_wJ, o_192, a_193, a_194, a_195, a_196, a_197, a_198, a_199, a_200, a_201, a_202, a_203, a_204, a_205, a_206, a_207, a_208, a_209, a_210, r_192_0, r_192_1, r_192_2, r_192_3, r_192_4, r_192_5, r_192_7, r_192_8, r_192_14, r_192_16, r_192_17, r_192_18, r_192_19, r_192_20, r_192_22, r_192_23, r_192_25, r_192_26, zrI, zrL, zrR, ne_eq, true_and, and_true, true_or, or_true, not_true_eq_false, not_false_eq_true, false_and, and_false, forall_const, true_implies, false_implies, implies_true, reduceCtorEq, Int.reduceEq, Int.reduceNe, Int.reduceLT, Int.reduceLE, Int.reduceNeg, Nat.reduceEqDiff, if_true, if_false, reduceIte, Int.reduceMul, Int.reduceAdd, Int.reduceSub]
      have e : ∀ x : Int64, x = (if n - w - (i : Int) - j * w - j < 0 then 0 else Int64.ofNat (BB j.toNat 60 (n - w - (i : Int) - j * w - j).toNat)) → ∀ u7 : PV, WP m_Mod_withOnes 6 [zr 192, zi n, zi w, zi j, zl (sI (fun i => Int64.ofNat (T2 w.toNat i) * (if n - w - (i : Int) - j * w - j < 0 then 0 else Int64.ofNat (BB j.toNat 60 (n - w - (i : Int) - j * w - j).toNat))) i + Int64.ofNat (T2 w.toNat (i : Int).toNat) * x), zu, zi ((i : Int) + 1), u7] [] σ (0, 0) Q := fun x hx u7 => by
        have := ih (i + 1) u7 (by omega)
        rw [Int.natCast_succ] at this
        rw [hx, Int.toNat_natCast]
        exact this
      refine ⟨fun c => t_mInBoxV hS hB j0 j6 (by omega) (by omega) (by omega) ?_, fun c => ⟨by omega, e 0 (by rw [if_pos c]) _⟩⟩
      simp only [zrI, zrL, zrR, ne_eq, true_and, and_true, true_or, or_true, not_true_eq_false, not_false_eq_true, false_and, and_false, forall_const, true_implies, false_implies, implies_true, reduceCtorEq, Int.reduceEq, Int.reduceNe, Int.reduceLT, Int.reduceLE, Int.reduceNeg, Nat.reduceEqDiff, if_true, if_false, reduceIte, Int.reduceMul, Int.reduceAdd, Int.reduceSub]
      refine ⟨by omega, e _ ?_ _⟩
      unfold bxL
      rw [if_neg (by omega), if_neg (by omega)]
      rfl
  exact r_Mod_withOnes_0 (key (n - w + 1).toNat 0 _ (by omega))
abbrev mhf (a : Nat) (j : Int) : Prop := a = 201 ∨ a = 208 ∨ (a = 192 ∧ (j = 15 ∨ j = 24))
theorem m_heap {Q : ZQ} {σ : ZM} {L : Int → LW} {k n m r : Int} (hS : Shp σ) (mC : MCo σ L) (hk : -2147483648 ≤ k ∧ k ≤ 2147483647) (hn : -2147483648 ≤ n ∧ n ≤ 2147483647) (hm : -2147483648 ≤ m ∧ m ≤ 2147483647) (hr : -2147483648 ≤ r ∧ r ≤ 2147483647)
    (q0 : (k < 0 ∨ 1 < k ∨ n < 0 ∨ 60 < n ∨ m < 1 ∨ 60 < m ∨ r < 0 ∨ m - 1 < r) → Q (zl (Int64.ofNat 18446744073709551614)) σ) (q1 : 0 ≤ k → k ≤ 1 → 0 ≤ n → n ≤ 60 → 1 ≤ m → m ≤ 60 → 0 ≤ r → r ≤ m - 1 → ∀ σ', MCo σ' L → Fz mhf σ σ' → Q (zl (hpS k n m r)) σ') : WP m_Mod_heap 0 [zr 192, zi k, zi n, zi m, zi r, zu, zu, zu, zu] [] σ (0, 0) Q := by
  refine r_Mod_heap_0 (t_inN (n := 0) (m := 1) hk (by decide) (by decide) (fun k0 k1 => ?_) (fun c => ?_))
  · simp only [zrI, zrL, zrR, ne_eq, true_and, and_true, true_or, or_true, not_true_eq_false, not_false_eq_true, false_and, and_false, forall_const, true_implies, false_implies, implies_true, reduceCtorEq, Int.reduceEq, Int.reduceNe, Int.reduceLT, Int.reduceLE, Int.reduceNeg, Nat.reduceEqDiff, if_true, if_false, reduceIte, Int.reduceMul, Int.reduceAdd, Int.reduceSub]
    refine t_inN (n := 0) (m := 60) hn (by decide) (by decide) (fun n0 n1 => ?_) (fun c => ?_)
    · simp only [zrI, zrL, zrR, ne_eq, true_and, and_true, true_or, or_true, not_true_eq_false, not_false_eq_true, false_and, and_false, forall_const, true_implies, false_implies, implies_true, reduceCtorEq, Int.reduceEq, Int.reduceNe, Int.reduceLT, Int.reduceLE, Int.reduceNeg, Nat.reduceEqDiff, if_true, if_false, reduceIte, Int.reduceMul, Int.reduceAdd, Int.reduceSub]
      refine t_inN (n := 1) (m := 60) hm (by decide) (by decide) (fun m0 m1 => ?_) (fun c => ?_)
      · simp only [zrI, zrL, zrR, ne_eq, true_and, and_true, true_or, or_true, not_true_eq_false, not_false_eq_true, false_and, and_false, forall_const, true_implies, false_implies, implies_true, reduceCtorEq, Int.reduceEq, Int.reduceNe, Int.reduceLT, Int.reduceLE, Int.reduceNeg, Nat.reduceEqDiff, if_true, if_false, reduceIte, Int.reduceMul, Int.reduceAdd, Int.reduceSub]
        refine ⟨by omega, t_inI hr (fun r0 r1 => ?_) (fun c => ?_)⟩
        · have r0 : 0 ≤ r := r0
          rw [l64 (by omega)] at r1
          have q1 := q1 (by omega) (by omega) (by omega) (by omega) (by omega) (by omega) r0 r1
          unfold hpS at q1
          simp only [hS, zrI, zrL, zrR, Shp_wI, Shp_wJ, zR_wI, zR_wJ, zJ_wI, zI_wJ, zobj_wI, zobj_wJ, zarr_wI, zarr_wJ, zS_wI, zS_wJ, o_192, a_193, a_194, a_195, a_196, a_197, a_198, a_199, a_200, a_201, a_202, a_203, a_204, a_205, a_206, a_207, a_208, a_209, a_210, r_192_0, r_192_1, r_192_2, r_192_3, r_192_4, r_192_5, r_192_7, r_192_8, r_192_14, r_192_16, r_192_17, r_192_18, r_192_19, r_192_20, r_192_22, r_192_23, r_192_25, r_192_26, zrI, zrL, zrR, ne_eq, true_and, and_true, true_or, or_true, not_true_eq_false, not_false_eq_true, false_and, and_false, forall_const, true_implies, false_implies, implies_true, reduceCtorEq, Int.reduceEq, Int.reduceNe, Int.reduceLT, Int.reduceLE, Int.reduceNeg, Nat.reduceEqDiff, if_true, if_false, reduceIte, Int.reduceMul, Int.reduceAdd, Int.reduceSub]
          refine ⟨fun hn0 => t_mMakeBox hS mC.2.2.1 (fun τ w1 w2 => ?_), fun hn0 => ⟨fun hr0 => ?_, fun hr0 => ?_⟩⟩
          · have hT := w2.shp hS
            simp only [hT, zrI, zrL, zrR, Shp_wI, Shp_wJ, zR_wI, zR_wJ, zJ_wI, zI_wJ, zobj_wI, zobj_wJ, zarr_wI, zarr_wJ, zS_wI, zS_wJ, o_192, a_193, a_194, a_195, a_196, a_197, a_198, a_199, a_200, a_201, a_202, a_203, a_204, a_205, a_206, a_207, a_208, a_209, a_210, r_192_0, r_192_1, r_192_2, r_192_3, r_192_4, r_192_5, r_192_7, r_192_8, r_192_14, r_192_16, r_192_17, r_192_18, r_192_19, r_192_20, r_192_22, r_192_23, r_192_25, r_192_26, zrI, zrL, zrR, ne_eq, true_and, and_true, true_or, or_true, not_true_eq_false, not_false_eq_true, false_and, and_false, forall_const, true_implies, false_implies, implies_true, reduceCtorEq, Int.reduceEq, Int.reduceNe, Int.reduceLT, Int.reduceLE, Int.reduceNeg, Nat.reduceEqDiff, if_true, if_false, reduceIte, Int.reduceMul, Int.reduceAdd, Int.reduceSub]
            refine t_mMakeTwos hT (w2.mtwoI (by omega) (fun j => by omega) mC.2.2.2) (fun υ v1 v2 => ?_)
            have hU := v2.shp hT
            have bU : MBoxV υ := fun p q r a b c => (v2.j (by omega)).trans (w1 p q r a b c)
            have fU : Fz mhf σ υ := (w2.mono (fun a j w => by omega)).tr (v2.mono (fun a j w => by omega))
            have cU : MCo υ L := ⟨fU.mlaw (fun j => by omega) mC.1, fU.mtabI (fun j a b => by omega) (fun j => by omega) (fun j => by omega) mC.2.1, Or.inr bU, Or.inr v1⟩
            have q1 := q1 υ cU fU
            rw [if_neg hn0] at q1
            refine ⟨fun hk0 => ?_, fun hk0 => ?_⟩
            · rw [if_neg hk0] at q1
              have inner : ∀ (a : Int64) (i : Nat), (i : Int) < n → (∀ u8 : PV, WP m_Mod_heap 204 [zr 192, zi k, zi n, zi m, zi r, zl (a + sI (fun i => ckR n m r i) (i + 1)), zu, zi ((i : Int) + 2), u8] [] υ (0, 0) Q) → ∀ (g j : Nat), j + g = 61 → WP m_Mod_heap 213 [zr 192, zi k, zi n, zi m, zi r, zl (a + sI (fun i => ckR n m r i) i + sI (fun j => ckT n m r ((i : Int) + 1) j) j), zu, zi ((i : Int) + 1), zi (j : Int)] [] υ (0, 0) Q := by
                intro a i hi next g
                have stop : ∀ j : Nat, j ≤ 61 → n < (j : Int) * ((i : Int) + 1) → WP m_Mod_heap 204 [zr 192, zi k, zi n, zi m, zi r, zl (a + sI (fun i => ckR n m r i) i + sI (fun j => ckT n m r ((i : Int) + 1) j) j), zu, zi ((i : Int) + 1 + 1), zi (j : Int)] [] υ (0, 0) Q := fun j hj c => by
                  have := next (zi (j : Int))
                  rw [show (i : Int) + 2 = (i : Int) + 1 + 1 by omega] at this
                  have e : a + sI (fun i => ckR n m r i) (i + 1) = a + sI (fun i => ckR n m r i) i + sI (fun j => ckT n m r ((i : Int) + 1) j) j := by
                    show a + (sI (fun i => ckR n m r i) i + ckR n m r i) = _
                    unfold ckR
                    rw [sI_tail (k := j) 61 hj (fun x h1 h2 => ?_), Int64.add_assoc]
                    unfold ckT
                    have e1 := jw_mono (show (j : Int) ≤ (x : Int) by omega) (show 0 ≤ (i : Int) + 1 by omega)
                    have e2 : (x : Int) * ((i : Int) + 1 + 1) = (x : Int) * ((i : Int) + 1) + (x : Int) := by rw [Int.mul_add (x : Int) ((i : Int) + 1) 1, Int.mul_one]
                    rw [wOn_zero (by omega)]
                    split <;> rfl
                  rw [e] at this
                  exact this
                induction g with
                | zero =>
                  intro j hj
                  have hb := mul_bd (x := (j : Int)) (y := (i : Int) + 1) (X := 61) (Y := 62) (by omega) (by omega)
                  have hmul := jw_mono (show (61 : Int) ≤ (j : Int) by omega) (show 0 ≤ (i : Int) + 1 by omega)
                  exact r_Mod_heap_213 ⟨by omega, fun c => ⟨by omega, stop j (by omega) c⟩, fun c => by omega⟩
                | succ g ih =>
                  intro j hj
                  have hb := mul_bd (x := (j : Int)) (y := (i : Int) + 1) (X := 61) (Y := 62) (by omega) (by omega)
                  have ihj := ih (j + 1) (by omega)
                  rw [Int.natCast_succ] at ihj
                  have e : a + sI (fun i => ckR n m r i) i + sI (fun j => ckT n m r ((i : Int) + 1) j) (j + 1) = (a + sI (fun i => ckR n m r i) i + sI (fun j => ckT n m r ((i : Int) + 1) j) j) + ckT n m r ((i : Int) + 1) j := by
                    show _ + (_ + _) = _
                    rw [Int64.add_assoc (a + sI (fun i => ckR n m r i) i)]
                  rw [e] at ihj
                  unfold ckT at ihj
                  refine r_Mod_heap_213 ?_
                  simp only [hU, zrI, zrL, zrR, Shp_wI, Shp_wJ, zR_wI, zR_wJ, zJ_wI, zI_wJ, zobj_wI, zobj_wJ, zarr_wI, zarr_wJ, zS_wI, zS_wJ, o_192, a_193, a_194, a_195, a_196, a_197, a_198, a_199, a_200, a_201, a_202, a_203, a_204, a_205, a_206, a_207, a_208, a_209, a_210, r_192_0, r_192_1, r_192_2, r_192_3, r_192_4, r_192_5, r_192_7, r_192_8, r_192_14, r_192_16, r_192_17, r_192_18, r_192_19, r_192_20, r_192_22, r_192_23, r_192_25, r_192_26, zrI, zrL, zrR, ne_eq, true_and, and_true, true_or, or_true, not_true_eq_false, not_false_eq_true, false_and, and_false, forall_const, true_implies, false_implies, implies_true, reduceCtorEq, Int.reduceEq, Int.reduceNe, Int.reduceLT, Int.reduceLE, Int.reduceNeg, Nat.reduceEqDiff, if_true, if_false, reduceIte, Int.reduceMul, Int.reduceAdd, Int.reduceSub]
                  refine ⟨by omega, fun c => ⟨by omega, stop j (by omega) c⟩, fun c => ⟨by omega, t_mRest (by omega) (by omega) ?_⟩⟩
                  simp only [hU, zrI, zrL, zrR, Shp_wI, Shp_wJ, zR_wI, zR_wJ, zJ_wI, zI_wJ, zobj_wI, zobj_wJ, zarr_wI, zarr_wJ, zS_wI, zS_wJ, o_192, a_193, a_194, a_195, a_196, a_197, a_198, a_199, a_200, a_201, a_202, a_203, a_204, a_205, a_206, a_207, a_208, a_209, a_210, r_192_0, r_192_1, r_192_2, r_192_3, r_192_4, r_192_5, r_192_7, r_192_8, r_192_14, r_192_16, r_192_17, r_192_18, r_192_19, r_192_20, r_192_22, r_192_23, r_192_25, r_192_26, zrI, zrL, zrR, ne_eq, true_and, and_true, true_or, or_true, not_true_eq_false, not_false_eq_true, false_and, and_false, forall_const, true_implies, false_implies, implies_true, reduceCtorEq, Int.reduceEq, Int.reduceNe, Int.reduceLT, Int.reduceLE, Int.reduceNeg, Nat.reduceEqDiff, if_true, if_false, reduceIte, Int.reduceMul, Int.reduceAdd, Int.reduceSub]
                  refine ⟨fun c2 => ⟨by omega, ?_⟩, fun c2 => ?_⟩
                  · rw [if_neg c2, Int64.add_zero] at ihj
                    exact ihj
                  · rw [if_pos c2] at ihj
                    refine t_mWithOnes hU bU v1 (by omega) (by omega) (by omega) (by omega) (by omega) ?_
                    simp only [zrI, zrL, zrR, ne_eq, true_and, and_true, true_or, or_true, not_true_eq_false, not_false_eq_true, false_and, and_false, forall_const, true_implies, false_implies, implies_true, reduceCtorEq, Int.reduceEq, Int.reduceNe, Int.reduceLT, Int.reduceLE, Int.reduceNeg, Nat.reduceEqDiff, if_true, if_false, reduceIte, Int.reduceMul, Int.reduceAdd, Int.reduceSub]
                    exact ⟨by omega, ihj⟩
              have outer : ∀ (a : Int64), Q (zl (a + sI (fun i => ckR n m r i) n.toNat)) υ → ∀ (g i : Nat) (u8 : PV), (i : Int) + g = n → WP m_Mod_heap 204 [zr 192, zi k, zi n, zi m, zi r, zl (a + sI (fun i => ckR n m r i) i), zu, zi ((i : Int) + 1), u8] [] υ (0, 0) Q := by
                intro a qa g
                induction g with
                | zero =>
                  intro i u8 hi
                  rw [show i = n.toNat by omega]
                  exact r_Mod_heap_204 ⟨fun _ => qa, fun c => by omega⟩
                | succ g ih =>
                  intro i u8 hi
                  refine r_Mod_heap_204 ⟨fun c => by omega, fun _ => ?_⟩
                  have := inner a i (by omega) (fun u8 => by
                    have := ih (i + 1) u8 (by omega)
                    rw [Int.natCast_succ, show (i : Int) + 1 + 1 = (i : Int) + 2 by omega] at this
                    exact this) 61 0 (by omega)
                  have e : sI (fun j => ckT n m r ((i : Int) + 1) j) 0 = 0 := rfl
                  rw [e, Int64.add_zero] at this
                  exact this
              have first : ∀ (g i : Nat) (u8 : PV), (i : Int) + g = n - 1 → WP m_Mod_heap 163 [zr 192, zi k, zi n, zi m, zi r, zl (sI (fun i => ckA n m r i) i), zu, zi ((i : Int) + 2), u8] [] υ (0, 0) Q := by
                intro g
                induction g with
                | zero =>
                  intro i u8 hi
                  refine r_Mod_heap_163 ⟨fun _ => ?_, fun c => by omega⟩
                  rw [show i = (n - 1).toNat by omega]
                  have := outer (sI (fun i => ckA n m r i) (n - 1).toNat) q1 n.toNat 0 u8 (by omega)
                  have e : sI (fun i => ckR n m r i) 0 = 0 := rfl
                  rw [e, Int64.add_zero] at this
                  exact this
                | succ g ih =>
                  intro i u8 hi
                  have ihi := ih (i + 1) u8 (by omega)
                  have e : sI (fun i => ckA n m r i) (i + 1) = sI (fun i => ckA n m r i) i + ckA n m r i := rfl
                  rw [e, Int.natCast_succ, show (i : Int) + 1 + 2 = (i : Int) + 2 + 1 by omega] at ihi
                  unfold ckA at ihi
                  refine r_Mod_heap_163 ⟨fun c => by omega, fun _ => t_mRest (by omega) (by omega) ?_⟩
                  simp only [hU, zrI, zrL, zrR, Shp_wI, Shp_wJ, zR_wI, zR_wJ, zJ_wI, zI_wJ, zobj_wI, zobj_wJ, zarr_wI, zarr_wJ, zS_wI, zS_wJ, o_192, a_193, a_194, a_195, a_196, a_197, a_198, a_199, a_200, a_201, a_202, a_203, a_204, a_205, a_206, a_207, a_208, a_209, a_210, r_192_0, r_192_1, r_192_2, r_192_3, r_192_4, r_192_5, r_192_7, r_192_8, r_192_14, r_192_16, r_192_17, r_192_18, r_192_19, r_192_20, r_192_22, r_192_23, r_192_25, r_192_26, zrI, zrL, zrR, ne_eq, true_and, and_true, true_or, or_true, not_true_eq_false, not_false_eq_true, false_and, and_false, forall_const, true_implies, false_implies, implies_true, reduceCtorEq, Int.reduceEq, Int.reduceNe, Int.reduceLT, Int.reduceLE, Int.reduceNeg, Nat.reduceEqDiff, if_true, if_false, reduceIte, Int.reduceMul, Int.reduceAdd, Int.reduceSub]
                  refine ⟨fun c => ⟨by omega, ?_⟩, fun c => ⟨by omega, t_mTwoV hU v1 (by omega) (by omega) (by omega) (by omega) ?_⟩⟩
                  · rw [if_neg c, Int64.add_zero] at ihi
                    exact ihi
                  · rw [if_pos c] at ihi
                    simp only [zrI, zrL, zrR, ne_eq, true_and, and_true, true_or, or_true, not_true_eq_false, not_false_eq_true, false_and, and_false, forall_const, true_implies, false_implies, implies_true, reduceCtorEq, Int.reduceEq, Int.reduceNe, Int.reduceLT, Int.reduceLE, Int.reduceNeg, Nat.reduceEqDiff, if_true, if_false, reduceIte, Int.reduceMul, Int.reduceAdd, Int.reduceSub]
                    rw [show ((i : Int) + 2).toNat = i + 2 by omega, show (n - ((i : Int) + 2)).toNat = n.toNat - (i + 2) by omega]
                    exact ⟨by omega, ihi⟩
              exact first (n - 1).toNat 0 _ (by omega)
            · rw [if_pos hk0] at q1
              have inner : ∀ (i : Nat), (i : Int) < n → (∀ u8 : PV, WP m_Mod_heap 85 [zr 192, zi k, zi n, zi m, zi r, zl (sI (fun i => rkR n m r i) (i + 1)), zu, zi ((i : Int) + 2), u8] [] υ (0, 0) Q) → ∀ (g j : Nat), (j : Int) + g = n - i → WP m_Mod_heap 94 [zr 192, zi k, zi n, zi m, zi r, zl (sI (fun i => rkR n m r i) i + sI (fun j => rkT n m r ((i : Int) + 1) ((j : Int) + 1)) j), zu, zi ((i : Int) + 1), zi ((j : Int) + 1)] [] υ (0, 0) Q := by
                intro i hi next g
                induction g with
                | zero =>
                  intro j hj
                  refine r_Mod_heap_94 ⟨by omega, by omega, fun _ => ⟨by omega, ?_⟩, fun c => by omega⟩
                  have := next (zi ((j : Int) + 1))
                  rw [show (i : Int) + 2 = (i : Int) + 1 + 1 by omega] at this
                  have e : sI (fun i => rkR n m r i) (i + 1) = sI (fun i => rkR n m r i) i + sI (fun j => rkT n m r ((i : Int) + 1) ((j : Int) + 1)) j := by
                    show sI (fun i => rkR n m r i) i + rkR n m r i = _
                    unfold rkR
                    rw [show (n - (i : Int)).toNat = j by omega]
                  rw [e] at this
                  exact this
                | succ g ih =>
                  intro j hj
                  have ihj := ih (j + 1) (by omega)
                  rw [Int.natCast_succ] at ihj
                  have e : sI (fun i => rkR n m r i) i + sI (fun j => rkT n m r ((i : Int) + 1) ((j : Int) + 1)) (j + 1) = (sI (fun i => rkR n m r i) i + sI (fun j => rkT n m r ((i : Int) + 1) ((j : Int) + 1)) j) + rkT n m r ((i : Int) + 1) ((j : Int) + 1) := by
                    show _ + (_ + _) = _
                    rw [Int64.add_assoc]
                  rw [e] at ihj
                  unfold rkT at ihj
                  refine r_Mod_heap_94 ?_
                  simp only [hU, zrI, zrL, zrR, Shp_wI, Shp_wJ, zR_wI, zR_wJ, zJ_wI, zI_wJ, zobj_wI, zobj_wJ, zarr_wI, zarr_wJ, zS_wI, zS_wJ, o_192, a_193, a_194, a_195, a_196, a_197, a_198, a_199, a_200, a_201, a_202, a_203, a_204, a_205, a_206, a_207, a_208, a_209, a_210, r_192_0, r_192_1, r_192_2, r_192_3, r_192_4, r_192_5, r_192_7, r_192_8, r_192_14, r_192_16, r_192_17, r_192_18, r_192_19, r_192_20, r_192_22, r_192_23, r_192_25, r_192_26, zrI, zrL, zrR, ne_eq, true_and, and_true, true_or, or_true, not_true_eq_false, not_false_eq_true, false_and, and_false, forall_const, true_implies, false_implies, implies_true, reduceCtorEq, Int.reduceEq, Int.reduceNe, Int.reduceLT, Int.reduceLE, Int.reduceNeg, Nat.reduceEqDiff, if_true, if_false, reduceIte, Int.reduceMul, Int.reduceAdd, Int.reduceSub]
                  refine ⟨by omega, by omega, fun c => by omega, fun _ => ⟨by omega, t_mRest (by omega) (by omega) ?_⟩⟩
                  simp only [hU, zrI, zrL, zrR, Shp_wI, Shp_wJ, zR_wI, zR_wJ, zJ_wI, zI_wJ, zobj_wI, zobj_wJ, zarr_wI, zarr_wJ, zS_wI, zS_wJ, o_192, a_193, a_194, a_195, a_196, a_197, a_198, a_199, a_200, a_201, a_202, a_203, a_204, a_205, a_206, a_207, a_208, a_209, a_210, r_192_0, r_192_1, r_192_2, r_192_3, r_192_4, r_192_5, r_192_7, r_192_8, r_192_14, r_192_16, r_192_17, r_192_18, r_192_19, r_192_20, r_192_22, r_192_23, r_192_25, r_192_26, zrI, zrL, zrR, ne_eq, true_and, and_true, true_or, or_true, not_true_eq_false, not_false_eq_true, false_and, and_false, forall_const, true_implies, false_implies, implies_true, reduceCtorEq, Int.reduceEq, Int.reduceNe, Int.reduceLT, Int.reduceLE, Int.reduceNeg, Nat.reduceEqDiff, if_true, if_false, reduceIte, Int.reduceMul, Int.reduceAdd, Int.reduceSub]
                  refine ⟨fun c => ⟨by omega, ?_⟩, fun c => ?_⟩
                  · rw [if_neg c, Int64.add_zero] at ihj
                    exact ihj
                  · rw [if_pos c] at ihj
                    refine ⟨by omega, by omega, by omega, by omega, by omega, t_mInBoxV hU bU (by omega) (by omega) (by omega) (by omega) (by omega) ?_⟩
                    simp only [zrI, zrL, zrR, ne_eq, true_and, and_true, true_or, or_true, not_true_eq_false, not_false_eq_true, false_and, and_false, forall_const, true_implies, false_implies, implies_true, reduceCtorEq, Int.reduceEq, Int.reduceNe, Int.reduceLT, Int.reduceLE, Int.reduceNeg, Nat.reduceEqDiff, if_true, if_false, reduceIte, Int.reduceMul, Int.reduceAdd, Int.reduceSub]
                    rw [show n - ((i : Int) + 1) - ((j : Int) + 1) + 1 = n + 1 - ((i : Int) + 1) - ((j : Int) + 1) by omega]
                    exact ⟨by omega, ihj⟩
              have outer : ∀ (g i : Nat) (u8 : PV), (i : Int) + g = n → WP m_Mod_heap 85 [zr 192, zi k, zi n, zi m, zi r, zl (sI (fun i => rkR n m r i) i), zu, zi ((i : Int) + 1), u8] [] υ (0, 0) Q := by
                intro g
                induction g with
                | zero =>
                  intro i u8 hi
                  rw [show i = n.toNat by omega]
                  exact r_Mod_heap_85 ⟨fun _ => q1, fun c => by omega⟩
                | succ g ih =>
                  intro i u8 hi
                  refine r_Mod_heap_85 ⟨fun c => by omega, fun _ => ?_⟩
                  have := inner i (by omega) (fun u8 => by
                    have := ih (i + 1) u8 (by omega)
                    rw [Int.natCast_succ, show (i : Int) + 1 + 1 = (i : Int) + 2 by omega] at this
                    exact this) (n - i).toNat 0 (by omega)
                  have e : sI (fun j => rkT n m r ((i : Int) + 1) ((j : Int) + 1)) 0 = 0 := rfl
                  rw [e, Int64.add_zero] at this
                  exact this
              exact outer n.toNat 0 _ (by omega)
          · rw [if_pos hn0, if_neg hr0] at q1
            exact q1 σ mC Fz.rf
          · rw [if_pos hn0, if_pos hr0] at q1
            exact q1 σ mC Fz.rf
        · rw [l64 (by omega)] at c
          have c : r < 0 ∨ m - 1 < r := c
          simp only [zrI, zrL, zrR, ne_eq, true_and, and_true, true_or, or_true, not_true_eq_false, not_false_eq_true, false_and, and_false, forall_const, true_implies, false_implies, implies_true, reduceCtorEq, Int.reduceEq, Int.reduceNe, Int.reduceLT, Int.reduceLE, Int.reduceNeg, Nat.reduceEqDiff, if_true, if_false, reduceIte, Int.reduceMul, Int.reduceAdd, Int.reduceSub]
          exact q0 (by omega)
      · simp only [zrI, zrL, zrR, ne_eq, true_and, and_true, true_or, or_true, not_true_eq_false, not_false_eq_true, false_and, and_false, forall_const, true_implies, false_implies, implies_true, reduceCtorEq, Int.reduceEq, Int.reduceNe, Int.reduceLT, Int.reduceLE, Int.reduceNeg, Nat.reduceEqDiff, if_true, if_false, reduceIte, Int.reduceMul, Int.reduceAdd, Int.reduceSub]
        exact q0 (by omega)
    · simp only [zrI, zrL, zrR, ne_eq, true_and, and_true, true_or, or_true, not_true_eq_false, not_false_eq_true, false_and, and_false, forall_const, true_implies, false_implies, implies_true, reduceCtorEq, Int.reduceEq, Int.reduceNe, Int.reduceLT, Int.reduceLE, Int.reduceNeg, Nat.reduceEqDiff, if_true, if_false, reduceIte, Int.reduceMul, Int.reduceAdd, Int.reduceSub]
      exact q0 (by omega)
  · simp only [zrI, zrL, zrR, ne_eq, true_and, and_true, true_or, or_true, not_true_eq_false, not_false_eq_true, false_and, and_false, forall_const, true_implies, false_implies, implies_true, reduceCtorEq, Int.reduceEq, Int.reduceNe, Int.reduceLT, Int.reduceLE, Int.reduceNeg, Nat.reduceEqDiff, if_true, if_false, reduceIte, Int.reduceMul, Int.reduceAdd, Int.reduceSub]
    exact q0 (by omega)
