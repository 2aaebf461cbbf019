/-! the calls on series, of the reference: signs, combine, series, same -/
theorem Lk_put {a b k : Int} {s t : SQ} (h : Lk s t) : Lk (putS a b k s) (putS a b k t) := fun n hn => by
  unfold putS
  split
  · rw [h n hn]
  · exact h n hn
theorem Lk_sgs {a b : Int} : ∀ (m : Nat) (k : Int) {s t : SQ}, Lk s t → Lk (sgs a b m k s) (sgs a b m k t)
  | 0, _, _, _, h => h
  | m + 1, k, _, _, h => Lk_sgs m (k + 1) (Lk_put h)
theorem sgs_far {a b : Int} (a1 : 1 ≤ a) (b0 : 1 - a ≤ b) (b1 : b ≤ a - 1) : ∀ (m : Nat) (k : Int) (s : SQ), (31 ≤ k ∨ k + m ≤ -30) → Lk (sgs a b m k s) s
  | 0, _, _, _ => Lk.rf
  | m + 1, k, s, h => by
    refine Lk.tr (sgs_far a1 b0 b1 m (k + 1) (putS a b k s) (by omega)) (fun n hn => ?_)
    unfold putS
    have := plS_far (k := k) a1 b0 b1 (by omega)
    rw [if_neg (by omega)]
theorem sgs_add {a b : Int} : ∀ (m m' : Nat) (k : Int) (s : SQ), sgs a b (m + m') k s = sgs a b m' (k + m) (sgs a b m k s)
  | 0, m', k, s => by
    rw [show 0 + m' = m' by omega, show k + ((0 : Nat) : Int) = k by omega]
    rfl
  | m + 1, m', k, s => by
    rw [show m + 1 + m' = (m + m') + 1 by omega]
    show sgs a b (m + m') (k + 1) (putS a b k s) = sgs a b m' (k + ((m + 1 : Nat) : Int)) (sgs a b m (k + 1) (putS a b k s))
    rw [sgs_add m m' (k + 1), show k + 1 + (m : Int) = k + ((m + 1 : Nat) : Int) by omega]
theorem sgs_81 {a b : Int} (a1 : 1 ≤ a) (b0 : 1 - a ≤ b) (b1 : b ≤ a - 1) (s : SQ) : Lk (sgs a b 81 (-40) s) (sgs a b 61 (-30) s) := by
  have h1 : Lk (sgs a b 10 (-40) s) s := sgs_far a1 b0 b1 10 (-40) s (by omega)
  have h2 : Lk (sgs a b 61 (-30) (sgs a b 10 (-40) s)) (sgs a b 61 (-30) s) := Lk_sgs 61 (-30) h1
  rw [show (81 : Nat) = 10 + (61 + 10) from rfl, sgs_add 10, sgs_add 61, show (-40 : Int) + ((10 : Nat) : Int) = -30 from rfl]
  exact Lk.tr (sgs_far a1 b0 b1 10 _ _ (by omega)) h2
theorem m_signs {Q : ZQ} {σ : ZM} {R : Int → SQ} {x a b : Int} (hS : Shp σ) (hR : MRowsI σ R) (hx : -2147483648 ≤ x ∧ x ≤ 2147483647) (ha : -2147483648 ≤ a ∧ a ≤ 2147483647) (hb : -2147483648 ≤ b ∧ b ≤ 2147483647) (q0 : (x < 0 ∨ 3 < x ∨ a < 1 ∨ 100 < a ∨ b < 1 - a ∨ a - 1 < b ∨ Int.tmod (a + b) 2 ≠ 0) → Q (zi (-2)) σ) (q1 : 0 ≤ x → x ≤ 3 → 1 ≤ a → a ≤ 100 → 1 - a ≤ b → b ≤ a - 1 → Int.tmod (a + b) 2 = 0 → ∀ σ', MRowsI σ' (upR R x (sgs a b 61 (-30) (fun _ => 0))) → Fz mrf σ σ' → Q (zi 1) σ') : WP m_Mod_signs 0 [zr 192, zi x, zi a, zi b, zu, zu] [] σ (0, 0) Q := by
  refine r_Mod_signs_0 ?_
  simp only [hS, zrI, zrL, zrR, Shp_wI, Shp_wJ, zR_wI, zR_wJ, zJ_wI, zI_wJ, zobj_wI, zobj_wJ, zarr_wI, zarr_wJ, zS_wI, zS_wJ, o_192, a_193, a_194, a_195, a_196, a_197, a_198, a_199, a_200, a_201, a_202, a_203, a_204, a_205, a_206, a_207, a_208, a_209, a_210, r_192_0, r_192_1, r_192_2, r_192_3, r_192_4, r_192_5, r_192_7, r_192_8, r_192_14, r_192_16, r_192_17, r_192_18, r_192_19, r_192_20, r_192_22, r_192_23, r_192_25, r_192_26, zrI, zrL, zrR, ne_eq, true_and, and_true, true_or, or_true, not_true_eq_false, not_false_eq_true, false_and, and_false, forall_const, true_implies, false_implies, implies_true, reduceCtorEq, Int.reduceEq, Int.reduceNe, Int.reduceLT, Int.reduceLE, Int.reduceNeg, Nat.reduceEqDiff, if_true, if_false, reduceIte, Int.reduceMul, Int.reduceAdd, Int.reduceSub]
  refine t_mRow hx (fun x0 x1 => ?_) (fun c => ?_)
  · simp only [zrI, zrL, zrR, ne_eq, true_and, and_true, true_or, or_true, not_true_eq_false, not_false_eq_true, false_and, and_false, forall_const, true_implies, false_implies, implies_true, reduceCtorEq, Int.reduceEq, Int.reduceNe, Int.reduceLT, Int.reduceLE, Int.reduceNeg, Nat.reduceEqDiff, if_true, if_false, reduceIte, Int.reduceMul, Int.reduceAdd, Int.reduceSub]
    refine t_inN (n := 1) (m := 100) ha (by decide) (by decide) (fun a0 a1 => ?_) (fun c => ?_)
    · simp only [zrI, zrL, zrR, ne_eq, true_and, and_true, true_or, or_true, not_true_eq_false, not_false_eq_true, false_and, and_false, forall_const, true_implies, false_implies, implies_true, reduceCtorEq, Int.reduceEq, Int.reduceNe, Int.reduceLT, Int.reduceLE, Int.reduceNeg, Nat.reduceEqDiff, if_true, if_false, reduceIte, Int.reduceMul, Int.reduceAdd, Int.reduceSub]
      refine ⟨by omega, by omega, t_inI hb (fun b0 b1 => ?_) (fun c => ?_)⟩
      · rw [l64 (by omega)] at b0 b1
        have a0 : 1 ≤ a := by omega
        have a1 : a ≤ 100 := by omega
        have hd : -2147483648 ≤ Int.tdiv (a + b) 2 ∧ Int.tdiv (a + b) 2 ≤ 2147483647 := by
          have := Int.natAbs_tdiv_le_natAbs (a + b) 2
          omega
        simp only [zrI, zrL, zrR, ne_eq, true_and, and_true, true_or, or_true, not_true_eq_false, not_false_eq_true, false_and, and_false, forall_const, true_implies, false_implies, implies_true, reduceCtorEq, Int.reduceEq, Int.reduceNe, Int.reduceLT, Int.reduceLE, Int.reduceNeg, Nat.reduceEqDiff, if_true, if_false, reduceIte, Int.reduceMul, Int.reduceAdd, Int.reduceSub]
        refine ⟨by omega, hd, fun cm => ?_, fun c => q0 (by omega)⟩
        have key : ∀ (m : Nat) (k : Int) (τ : ZM) (u : PV) (s : SQ), k + m = 41 → -40 ≤ k → RV0 τ 210 s → Fz mrf σ τ → (∀ i, zJ τ 209 i = zJ σ 209 i) → (∀ σ', MR σ' x (sgs a b m k s) → Fz (fun a j => rxf x a j ∨ a = 210) σ σ' → Q (zi 1) σ') → Fz (fun a j => a = 210) σ τ → WP m_Mod_signs 76 [zr 192, zi x, zi a, zi b, zi k, u] [] τ (0, 0) Q := by
          intro m
          induction m with
          | zero =>
            intro k τ u s hm k0 hs f h9 q f'
            refine r_Mod_signs_76 ?_
            simp only [f.shp hS, zrI, zrL, zrR, Shp_wI, Shp_wJ, zR_wI, zR_wJ, zJ_wI, zI_wJ, zobj_wI, zobj_wJ, zarr_wI, zarr_wJ, zS_wI, zS_wJ, o_192, a_193, a_194, a_195, a_196, a_197, a_198, a_199, a_200, a_201, a_202, a_203, a_204, a_205, a_206, a_207, a_208, a_209, a_210, r_192_0, r_192_1, r_192_2, r_192_3, r_192_4, r_192_5, r_192_7, r_192_8, r_192_14, r_192_16, r_192_17, r_192_18, r_192_19, r_192_20, r_192_22, r_192_23, r_192_25, r_192_26, zrI, zrL, zrR, ne_eq, true_and, and_true, true_or, or_true, not_true_eq_false, not_false_eq_true, false_and, and_false, forall_const, true_implies, false_implies, implies_true, reduceCtorEq, Int.reduceEq, Int.reduceNe, Int.reduceLT, Int.reduceLE, Int.reduceNeg, Nat.reduceEqDiff, if_true, if_false, reduceIte, Int.reduceMul, Int.reduceAdd, Int.reduceSub]
            refine ⟨fun _ => t_mSetRow (f.shp hS) x0 x1 hs (fun υ w1 w2 => q υ w1 ((f'.mono (fun a j w => Or.inr w)).tr (w2.mono (fun a j w => Or.inl w)))), fun c => by omega⟩
          | succ m ih =>
            intro k τ u s hm k0 hs f h9 q f'
            obtain ⟨h1, h2, h3, h4⟩ := sg_bd (k := k) a0 a1 b0 b1 (by omega) (by omega)
            have hp := plS_bd (k := k) a0 a1 b0 b1 (by omega) (by omega)
            have hd : -2147483648 ≤ Int.tdiv k 2 ∧ Int.tdiv k 2 ≤ 2147483647 := by
              have := Int.natAbs_tdiv_le_natAbs k 2
              omega
            refine r_Mod_signs_76 ?_
            simp only [f.shp hS, zrI, zrL, zrR, Shp_wI, Shp_wJ, zR_wI, zR_wJ, zJ_wI, zI_wJ, zobj_wI, zobj_wJ, zarr_wI, zarr_wJ, zS_wI, zS_wJ, o_192, a_193, a_194, a_195, a_196, a_197, a_198, a_199, a_200, a_201, a_202, a_203, a_204, a_205, a_206, a_207, a_208, a_209, a_210, r_192_0, r_192_1, r_192_2, r_192_3, r_192_4, r_192_5, r_192_7, r_192_8, r_192_14, r_192_16, r_192_17, r_192_18, r_192_19, r_192_20, r_192_22, r_192_23, r_192_25, r_192_26, zrI, zrL, zrR, ne_eq, true_and, and_true, true_or, or_true, not_true_eq_false, not_false_eq_true, false_and, and_false, forall_const, true_implies, false_implies, implies_true, reduceCtorEq, Int.reduceEq, Int.reduceNe, Int.reduceLT, Int.reduceLE, Int.reduceNeg, Nat.reduceEqDiff, if_true, if_false, reduceIte, Int.reduceMul, Int.reduceAdd, Int.reduceSub]
            have ep : Int.tdiv (a * k * k + b * k) 2 = plS a b k := rfl
            rw [ep]
            have wr : ∀ v : Int64, v = sgK k → RV0 (wJ τ 210 (plS a b k) (zJ τ 210 (plS a b k) + v)) 210 (putS a b k s) := fun v hv n hn => by
              unfold putS
              rw [zJ_wJ]
              by_cases e : (n : Int) = plS a b k
              · rw [if_pos ⟨rfl, e⟩, if_pos e, ← e, hs n hn, hv]
              · rw [if_neg (fun w => e w.2), if_neg e]
                exact hs n hn
            refine ⟨fun c => by omega, fun _ => ⟨by omega, by omega, by omega, by omega, by omega, fun c2 => ⟨by omega, ih (k + 1) τ _ (putS a b k s) (by omega) (by omega) (hs.lk (fun n hn => ?_)) f h9 q f'⟩, fun c2 => ⟨by omega, hd, fun c3 => ⟨by omega, by omega, ?_⟩, fun c3 => ⟨by omega, by omega, ?_⟩⟩⟩⟩
            · unfold putS
              rw [if_neg (by omega)]
            · exact ih (k + 1) _ _ _ (by omega) (by omega) (wr _ (by unfold sgK; rw [if_neg c3])) (f.tr (Fz.wJ (by omega))) (fun i => by rw [zJ_wJ, if_neg (by omega)]; exact h9 i) q (f'.tr (Fz.wJ rfl))
            · exact ih (k + 1) _ _ _ (by omega) (by omega) (wr _ (by unfold sgK; rw [if_pos c3])) (f.tr (Fz.wJ (by omega))) (fun i => by rw [zJ_wJ, if_neg (by omega)]; exact h9 i) q (f'.tr (Fz.wJ rfl))
        have zer : ∀ (m n : Nat) (τ : ZM), n + m = 401 → (∀ i : Nat, i < n → zJ τ 210 (i : Int) = 0) → Fz (fun a j => a = 210) σ τ → WP m_Mod_signs 50 [zr 192, zi x, zi a, zi b, zi (n : Int), zu] [] τ (0, 0) Q := by
          intro m
          induction m with
          | zero =>
            intro n τ hn hv f
            refine r_Mod_signs_50 ⟨fun _ => ?_, fun c => by omega⟩
            exact key 81 (-40) τ _ (fun _ => 0) (by omega) (by omega) (fun i hi => hv i (by omega)) (f.mono (fun a j w => by omega)) (fun i => f.j (by omega)) (fun σ' w1 w2 => q1 x0 x1 a0 a1 b0 b1 cm σ' (hR.up w2 (w1.lk (sgs_81 a0 b0 b1 _))) (w2.mono (fun a j w => by omega))) f
          | succ m ih =>
            intro n τ hn hv f
            refine r_Mod_signs_50 ?_
            simp only [f.shp hS, zrI, zrL, zrR, Shp_wI, Shp_wJ, zR_wI, zR_wJ, zJ_wI, zI_wJ, zobj_wI, zobj_wJ, zarr_wI, zarr_wJ, zS_wI, zS_wJ, o_192, a_193, a_194, a_195, a_196, a_197, a_198, a_199, a_200, a_201, a_202, a_203, a_204, a_205, a_206, a_207, a_208, a_209, a_210, r_192_0, r_192_1, r_192_2, r_192_3, r_192_4, r_192_5, r_192_7, r_192_8, r_192_14, r_192_16, r_192_17, r_192_18, r_192_19, r_192_20, r_192_22, r_192_23, r_192_25, r_192_26, zrI, zrL, zrR, ne_eq, true_and, and_true, true_or, or_true, not_true_eq_false, not_false_eq_true, false_and, and_false, forall_const, true_implies, false_implies, implies_true, reduceCtorEq, Int.reduceEq, Int.reduceNe, Int.reduceLT, Int.reduceLE, Int.reduceNeg, Nat.reduceEqDiff, if_true, if_false, reduceIte, Int.reduceMul, Int.reduceAdd, Int.reduceSub]
            refine ⟨fun c => by omega, fun _ => ⟨by omega, by omega, ?_⟩⟩
            have := ih (n + 1) (wJ τ 210 (n : Int) 0) (by omega) (fun i hi => ?_) (f.tr (Fz.wJ rfl))
            · rw [Int.natCast_succ] at this
              exact this
            · rw [zJ_wJ]
              split
              · rfl
              · exact hv i (by omega)
        exact zer 401 0 σ (by omega) (fun i hi => by omega) Fz.rf
      · rw [l64 (by omega), l64 (by omega)] at c
        simp only [zrI, zrL, zrR, ne_eq, true_and, and_true, true_or, or_true, not_true_eq_false, not_false_eq_true, false_and, and_false, forall_const, true_implies, false_implies, implies_true, reduceCtorEq, Int.reduceEq, Int.reduceNe, Int.reduceLT, Int.reduceLE, Int.reduceNeg, Nat.reduceEqDiff, if_true, if_false, reduceIte, Int.reduceMul, Int.reduceAdd, Int.reduceSub]
        exact q0 (by omega)
    · simp only [zrI, zrL, zrR, ne_eq, true_and, and_true, true_or, or_true, not_true_eq_false, not_false_eq_true, false_and, and_false, forall_const, true_implies, false_implies, implies_true, reduceCtorEq, Int.reduceEq, Int.reduceNe, Int.reduceLT, Int.reduceLE, Int.reduceNeg, Nat.reduceEqDiff, if_true, if_false, reduceIte, Int.reduceMul, Int.reduceAdd, Int.reduceSub]
      exact q0 (by omega)
  · simp only [zrI, zrL, zrR, ne_eq, true_and, and_true, true_or, or_true, not_true_eq_false, not_false_eq_true, false_and, and_false, forall_const, true_implies, false_implies, implies_true, reduceCtorEq, Int.reduceEq, Int.reduceNe, Int.reduceLT, Int.reduceLE, Int.reduceNeg, Nat.reduceEqDiff, if_true, if_false, reduceIte, Int.reduceMul, Int.reduceAdd, Int.reduceSub]
    exact q0 (by omega)
theorem neg1 (x : Int64) : Int64.ofNat 18446744073709551615 * x = -x := by
  have : Int64.ofNat 18446744073709551615 = -1 := by decide
  rw [this]
  grind
theorem m_combine {Q : ZQ} {σ : ZM} {R : Int → SQ} {k x y : Int} (hS : Shp σ) (hR : MRowsI σ R) (hk : -2147483648 ≤ k ∧ k ≤ 2147483647) (hx : -2147483648 ≤ x ∧ x ≤ 2147483647) (hy : -2147483648 ≤ y ∧ y ≤ 2147483647) (q0 : (k < 0 ∨ 3 < k ∨ x < 0 ∨ 3 < x ∨ y < 0 ∨ (k = 3 ∧ 400 < y) ∨ (k ≠ 3 ∧ 3 < y)) → Q (zi (-2)) σ) (q1 : 0 ≤ k → k ≤ 3 → 0 ≤ x → x ≤ 3 → 0 ≤ y → ((k = 3 ∧ y ≤ 400) ∨ (k ≠ 3 ∧ y ≤ 3)) → ∀ σ', MRowsI σ' (upR R x (cmb k R x y)) → Fz mrf σ σ' → Q (zi 1) σ') : WP m_Mod_combine 0 [zr 192, zi k, zi x, zi y, zu, zu, zu, zu] [] σ (0, 0) Q := by
  have main : 0 ≤ k → k ≤ 3 → 0 ≤ x → x ≤ 3 → 0 ≤ y → ((k = 3 ∧ y ≤ 400) ∨ (k ≠ 3 ∧ y ≤ 3)) → WP m_Mod_combine 54 [zr 192, zi k, zi x, zi y, zi 0, zu, zu, zu] [] σ (0, 0) Q := by
    intro k0 k1 x0 x1 y0 hky
    have q1 := q1 k0 k1 x0 x1 y0 hky
    have key : ∀ (m n : Nat) (τ : ZM) (u v w : PV), n + m = 401 → (∀ i : Nat, i < n → zJ τ 210 (i : Int) = cmb k R x y i) → Fz (fun a j => a = 210) σ τ → WP m_Mod_combine 54 [zr 192, zi k, zi x, zi y, zi (n : Int), u, v, w] [] τ (0, 0) Q := by
      intro m
      induction m with
      | zero =>
        intro n τ u v w hn hv f
        refine r_Mod_combine_54 ?_
        simp only [f.shp hS, zrI, zrL, zrR, Shp_wI, Shp_wJ, zR_wI, zR_wJ, zJ_wI, zI_wJ, zobj_wI, zobj_wJ, zarr_wI, zarr_wJ, zS_wI, zS_wJ, o_192, a_193, a_194, a_195, a_196, a_197, a_198, a_199, a_200, a_201, a_202, a_203, a_204, a_205, a_206, a_207, a_208, a_209, a_210, r_192_0, r_192_1, r_192_2, r_192_3, r_192_4, r_192_5, r_192_7, r_192_8, r_192_14, r_192_16, r_192_17, r_192_18, r_192_19, r_192_20, r_192_22, r_192_23, r_192_25, r_192_26, zrI, zrL, zrR, ne_eq, true_and, and_true, true_or, or_true, not_true_eq_false, not_false_eq_true, false_and, and_false, forall_const, true_implies, false_implies, implies_true, reduceCtorEq, Int.reduceEq, Int.reduceNe, Int.reduceLT, Int.reduceLE, Int.reduceNeg, Nat.reduceEqDiff, if_true, if_false, reduceIte, Int.reduceMul, Int.reduceAdd, Int.reduceSub]
        exact ⟨fun _ => t_mSetRow (f.shp hS) x0 x1 (fun i hi => hv i (by omega)) (fun υ w1 w2 => q1 υ (hR.up ((f.mono (fun a j w => Or.inr w)).tr (w2.mono (fun a j w => Or.inl w))) w1) ((f.mono (fun a j w => by omega)).tr (w2.mono (fun a j w => by omega)))), fun c => by omega⟩
      | succ m ih =>
        intro n τ u v w hn hv f
        have hT := f.shp hS
        have r1 : ∀ i : Nat, i ≤ 400 → zJ τ 209 (401 * x + (i : Int)) = R x i := fun i hi => (f.j (by omega)).trans (hR x x0 x1 i hi)
        have r2 : k ≠ 3 → ∀ i : Nat, i ≤ 400 → zJ τ 209 (401 * y + (i : Int)) = R y i := fun h3 i hi => (f.j (by omega)).trans (hR y y0 (by omega) i hi)
        have go : ∀ (c : Int64) (u v w : PV), c = cmb k R x y n → WP m_Mod_combine 54 [zr 192, zi k, zi x, zi y, zi ((n : Int) + 1), u, v, w] [] (wJ τ 210 (n : Int) c) (0, 0) Q := fun c u v w hc => by
          have := ih (n + 1) (wJ τ 210 (n : Int) c) u v w (by omega) (fun i hi => ?_) (f.tr (Fz.wJ rfl))
          · rw [Int.natCast_succ] at this
            exact this
          · rw [zJ_wJ]
            by_cases e : i = n
            · rw [if_pos ⟨rfl, by omega⟩, e, hc]
            · rw [if_neg (by omega)]
              exact hv i (by omega)
        refine r_Mod_combine_54 ?_
        simp only [hT, zrI, zrL, zrR, Shp_wI, Shp_wJ, zR_wI, zR_wJ, zJ_wI, zI_wJ, zobj_wI, zobj_wJ, zarr_wI, zarr_wJ, zS_wI, zS_wJ, o_192, a_193, a_194, a_195, a_196, a_197, a_198, a_199, a_200, a_201, a_202, a_203, a_204, a_205, a_206, a_207, a_208, a_209, a_210, r_192_0, r_192_1, r_192_2, r_192_3, r_192_4, r_192_5, r_192_7, r_192_8, r_192_14, r_192_16, r_192_17, r_192_18, r_192_19, r_192_20, r_192_22, r_192_23, r_192_25, r_192_26, zrI, zrL, zrR, ne_eq, true_and, and_true, true_or, or_true, not_true_eq_false, not_false_eq_true, false_and, and_false, forall_const, true_implies, false_implies, implies_true, reduceCtorEq, Int.reduceEq, Int.reduceNe, Int.reduceLT, Int.reduceLE, Int.reduceNeg, Nat.reduceEqDiff, if_true, if_false, reduceIte, Int.reduceMul, Int.reduceAdd, Int.reduceSub]
        refine ⟨fun c => by omega, fun _ => ⟨fun e => ⟨fun c => ⟨by omega, by omega, go _ _ _ _ ?_⟩, fun c => ⟨by omega, by omega, by omega, by omega, by omega, by omega, go _ _ _ _ ?_⟩⟩, fun e => ?_, fun e => ⟨by omega, by omega, by omega, by omega, by omega, by omega, by omega, by omega, go _ _ _ _ ?_⟩, fun e => ⟨by omega, by omega, by omega, by omega, by omega, by omega, by omega, by omega, go _ _ _ _ ?_⟩⟩⟩
        · unfold cmb shS
          rw [if_pos (by omega), if_neg (by omega)]
        · unfold cmb shS
          rw [if_pos (by omega), if_pos (by omega), show 401 * x + (n : Int) - y = 401 * x + ((n - y.toNat : Nat) : Int) by omega, r1 _ (by omega)]
        · have inner : ∀ (g j : Nat), j + g = n + 1 → WP m_Mod_combine 95 [zr 192, zi k, zi x, zi y, zi (n : Int), zl (cvS (R x) (R y) n j), zu, zi (j : Int)] [] τ (0, 0) Q := by
            intro g
            induction g with
            | zero =>
              intro j hj
              refine r_Mod_combine_95 ?_
              simp only [hT, zrI, zrL, zrR, Shp_wI, Shp_wJ, zR_wI, zR_wJ, zJ_wI, zI_wJ, zobj_wI, zobj_wJ, zarr_wI, zarr_wJ, zS_wI, zS_wJ, o_192, a_193, a_194, a_195, a_196, a_197, a_198, a_199, a_200, a_201, a_202, a_203, a_204, a_205, a_206, a_207, a_208, a_209, a_210, r_192_0, r_192_1, r_192_2, r_192_3, r_192_4, r_192_5, r_192_7, r_192_8, r_192_14, r_192_16, r_192_17, r_192_18, r_192_19, r_192_20, r_192_22, r_192_23, r_192_25, r_192_26, zrI, zrL, zrR, ne_eq, true_and, and_true, true_or, or_true, not_true_eq_false, not_false_eq_true, false_and, and_false, forall_const, true_implies, false_implies, implies_true, reduceCtorEq, Int.reduceEq, Int.reduceNe, Int.reduceLT, Int.reduceLE, Int.reduceNeg, Nat.reduceEqDiff, if_true, if_false, reduceIte, Int.reduceMul, Int.reduceAdd, Int.reduceSub]
              refine ⟨fun _ => ⟨by omega, by omega, go _ _ _ _ ?_⟩, fun c => by omega⟩
              unfold cmb mulS
              rw [if_neg (by omega), if_pos e, show j = n + 1 by omega]
            | succ g ihg =>
              intro j hj
              refine r_Mod_combine_95 ?_
              simp only [hT, zrI, zrL, zrR, Shp_wI, Shp_wJ, zR_wI, zR_wJ, zJ_wI, zI_wJ, zobj_wI, zobj_wJ, zarr_wI, zarr_wJ, zS_wI, zS_wJ, o_192, a_193, a_194, a_195, a_196, a_197, a_198, a_199, a_200, a_201, a_202, a_203, a_204, a_205, a_206, a_207, a_208, a_209, a_210, r_192_0, r_192_1, r_192_2, r_192_3, r_192_4, r_192_5, r_192_7, r_192_8, r_192_14, r_192_16, r_192_17, r_192_18, r_192_19, r_192_20, r_192_22, r_192_23, r_192_25, r_192_26, zrI, zrL, zrR, ne_eq, true_and, and_true, true_or, or_true, not_true_eq_false, not_false_eq_true, false_and, and_false, forall_const, true_implies, false_implies, implies_true, reduceCtorEq, Int.reduceEq, Int.reduceNe, Int.reduceLT, Int.reduceLE, Int.reduceNeg, Nat.reduceEqDiff, if_true, if_false, reduceIte, Int.reduceMul, Int.reduceAdd, Int.reduceSub]
              have e1 := r1 j (by omega)
              have e2 := r2 (by omega) (n - j) (by omega)
              rw [show 401 * y + ((n - j : Nat) : Int) = 401 * y + (n : Int) - (j : Int) by omega] at e2
              rw [e1, e2]
              refine ⟨fun c => by omega, fun _ => ⟨by omega, by omega, by omega, by omega, by omega, by omega, by omega, by omega, ?_⟩⟩
              have := ihg (j + 1) (by omega)
              rw [Int.natCast_succ] at this
              exact this
          exact inner (n + 1) 0 (by omega)
        · unfold cmb
          rw [if_neg (by omega), if_neg (by omega), r1 n (by omega), r2 (by omega) n (by omega)]
          show _ = R x n + (if k = 1 then 1 else Int64.ofNat 18446744073709551615) * R y n
          rw [if_pos e]
          grind
        · unfold cmb
          rw [if_neg (by omega), if_neg (by omega), r1 n (by omega), r2 (by omega) n (by omega)]
          show _ = R x n + (if k = 1 then 1 else Int64.ofNat 18446744073709551615) * R y n
          rw [if_neg (by omega), neg1]
          grind
    exact key 401 0 σ _ _ _ (by omega) (fun i hi => by omega) Fz.rf
  refine r_Mod_combine_0 (t_inN (n := 0) (m := 3) hk (by decide) (by decide) (fun k0 k1 => ?_) (fun c => ?_))
  · simp only [hS, zrI, zrL, zrR, Shp_wI, Shp_wJ, zR_wI, zR_wJ, zJ_wI, zI_wJ, zobj_wI, zobj_wJ, zarr_wI, zarr_wJ, zS_wI, zS_wJ, o_192, a_193, a_194, a_195, a_196, a_197, a_198, a_199, a_200, a_201, a_202, a_203, a_204, a_205, a_206, a_207, a_208, a_209, a_210, r_192_0, r_192_1, r_192_2, r_192_3, r_192_4, r_192_5, r_192_7, r_192_8, r_192_14, r_192_16, r_192_17, r_192_18, r_192_19, r_192_20, r_192_22, r_192_23, r_192_25, r_192_26, zrI, zrL, zrR, ne_eq, true_and, and_true, true_or, or_true, not_true_eq_false, not_false_eq_true, false_and, and_false, forall_const, true_implies, false_implies, implies_true, reduceCtorEq, Int.reduceEq, Int.reduceNe, Int.reduceLT, Int.reduceLE, Int.reduceNeg, Nat.reduceEqDiff, if_true, if_false, reduceIte, Int.reduceMul, Int.reduceAdd, Int.reduceSub]
    refine t_mRow hx (fun x0 x1 => ?_) (fun c => ?_)
    · simp only [hS, zrI, zrL, zrR, Shp_wI, Shp_wJ, zR_wI, zR_wJ, zJ_wI, zI_wJ, zobj_wI, zobj_wJ, zarr_wI, zarr_wJ, zS_wI, zS_wJ, o_192, a_193, a_194, a_195, a_196, a_197, a_198, a_199, a_200, a_201, a_202, a_203, a_204, a_205, a_206, a_207, a_208, a_209, a_210, r_192_0, r_192_1, r_192_2, r_192_3, r_192_4, r_192_5, r_192_7, r_192_8, r_192_14, r_192_16, r_192_17, r_192_18, r_192_19, r_192_20, r_192_22, r_192_23, r_192_25, r_192_26, zrI, zrL, zrR, ne_eq, true_and, and_true, true_or, or_true, not_true_eq_false, not_false_eq_true, false_and, and_false, forall_const, true_implies, false_implies, implies_true, reduceCtorEq, Int.reduceEq, Int.reduceNe, Int.reduceLT, Int.reduceLE, Int.reduceNeg, Nat.reduceEqDiff, if_true, if_false, reduceIte, Int.reduceMul, Int.reduceAdd, Int.reduceSub]
      refine ⟨fun k3 => t_mRow hy (fun y0 y1 => ?_) (fun c => ?_), fun k3 => t_inN (n := 0) (m := 400) hy (by decide) (by decide) (fun y0 y1 => ?_) (fun c => ?_)⟩
      · simp only [zrI, zrL, zrR, ne_eq, true_and, and_true, true_or, or_true, not_true_eq_false, not_false_eq_true, false_and, and_false, forall_const, true_implies, false_implies, implies_true, reduceCtorEq, Int.reduceEq, Int.reduceNe, Int.reduceLT, Int.reduceLE, Int.reduceNeg, Nat.reduceEqDiff, if_true, if_false, reduceIte, Int.reduceMul, Int.reduceAdd, Int.reduceSub]
        exact main (by omega) (by omega) x0 x1 y0 (Or.inr ⟨k3, y1⟩)
      · simp only [zrI, zrL, zrR, ne_eq, true_and, and_true, true_or, or_true, not_true_eq_false, not_false_eq_true, false_and, and_false, forall_const, true_implies, false_implies, implies_true, reduceCtorEq, Int.reduceEq, Int.reduceNe, Int.reduceLT, Int.reduceLE, Int.reduceNeg, Nat.reduceEqDiff, if_true, if_false, reduceIte, Int.reduceMul, Int.reduceAdd, Int.reduceSub]
        exact q0 (by omega)
      · simp only [zrI, zrL, zrR, ne_eq, true_and, and_true, true_or, or_true, not_true_eq_false, not_false_eq_true, false_and, and_false, forall_const, true_implies, false_implies, implies_true, reduceCtorEq, Int.reduceEq, Int.reduceNe, Int.reduceLT, Int.reduceLE, Int.reduceNeg, Nat.reduceEqDiff, if_true, if_false, reduceIte, Int.reduceMul, Int.reduceAdd, Int.reduceSub]
        exact main (by omega) (by omega) x0 x1 (by omega) (Or.inl ⟨k3, by omega⟩)
      · simp only [zrI, zrL, zrR, ne_eq, true_and, and_true, true_or, or_true, not_true_eq_false, not_false_eq_true, false_and, and_false, forall_const, true_implies, false_implies, implies_true, reduceCtorEq, Int.reduceEq, Int.reduceNe, Int.reduceLT, Int.reduceLE, Int.reduceNeg, Nat.reduceEqDiff, if_true, if_false, reduceIte, Int.reduceMul, Int.reduceAdd, Int.reduceSub]
        exact q0 (by omega)
    · simp only [zrI, zrL, zrR, ne_eq, true_and, and_true, true_or, or_true, not_true_eq_false, not_false_eq_true, false_and, and_false, forall_const, true_implies, false_implies, implies_true, reduceCtorEq, Int.reduceEq, Int.reduceNe, Int.reduceLT, Int.reduceLE, Int.reduceNeg, Nat.reduceEqDiff, if_true, if_false, reduceIte, Int.reduceMul, Int.reduceAdd, Int.reduceSub]
      exact q0 (by omega)
  · simp only [zrI, zrL, zrR, ne_eq, true_and, and_true, true_or, or_true, not_true_eq_false, not_false_eq_true, false_and, and_false, forall_const, true_implies, false_implies, implies_true, reduceCtorEq, Int.reduceEq, Int.reduceNe, Int.reduceLT, Int.reduceLE, Int.reduceNeg, Nat.reduceEqDiff, if_true, if_false, reduceIte, Int.reduceMul, Int.reduceAdd, Int.reduceSub]
    exact q0 (by omega)
theorem m_series {Q : ZQ} {σ : ZM} {R : Int → SQ} {x p : Int} (hS : Shp σ) (hR : MRowsI σ R) (hx : -2147483648 ≤ x ∧ x ≤ 2147483647) (hp : -2147483648 ≤ p ∧ p ≤ 2147483647) (q0 : (x < 0 ∨ 3 < x ∨ p < 0 ∨ 400 < p) → Q (zl (Int64.ofNat 9223372036854775808)) σ) (q1 : 0 ≤ x → x ≤ 3 → 0 ≤ p → p ≤ 400 → Q (zl (R x p.toNat)) σ) : WP m_Mod_series 0 [zr 192, zi x, zi p] [] σ (0, 0) Q := by
  refine r_Mod_series_0 ?_
  simp only [hS, zrI, zrL, zrR, Shp_wI, Shp_wJ, zR_wI, zR_wJ, zJ_wI, zI_wJ, zobj_wI, zobj_wJ, zarr_wI, zarr_wJ, zS_wI, zS_wJ, o_192, a_193, a_194, a_195, a_196, a_197, a_198, a_199, a_200, a_201, a_202, a_203, a_204, a_205, a_206, a_207, a_208, a_209, a_210, r_192_0, r_192_1, r_192_2, r_192_3, r_192_4, r_192_5, r_192_7, r_192_8, r_192_14, r_192_16, r_192_17, r_192_18, r_192_19, r_192_20, r_192_22, r_192_23, r_192_25, r_192_26, zrI, zrL, zrR, ne_eq, true_and, and_true, true_or, or_true, not_true_eq_false, not_false_eq_true, false_and, and_false, forall_const, true_implies, false_implies, implies_true, reduceCtorEq, Int.reduceEq, Int.reduceNe, Int.reduceLT, Int.reduceLE, Int.reduceNeg, Nat.reduceEqDiff, if_true, if_false, reduceIte, Int.reduceMul, Int.reduceAdd, Int.reduceSub]
  refine t_mRow hx (fun x0 x1 => ?_) (fun c => ?_)
  · simp only [zrI, zrL, zrR, ne_eq, true_and, and_true, true_or, or_true, not_true_eq_false, not_false_eq_true, false_and, and_false, forall_const, true_implies, false_implies, implies_true, reduceCtorEq, Int.reduceEq, Int.reduceNe, Int.reduceLT, Int.reduceLE, Int.reduceNeg, Nat.reduceEqDiff, if_true, if_false, reduceIte, Int.reduceMul, Int.reduceAdd, Int.reduceSub]
    refine t_inN (n := 0) (m := 400) hp (by decide) (by decide) (fun p0 p1 => ?_) (fun c => ?_)
    · have e := hR x x0 x1 p.toNat (by omega)
      rw [show (p.toNat : Int) = p by omega] at e
      simp only [hS, e, zrI, zrL, zrR, Shp_wI, Shp_wJ, zR_wI, zR_wJ, zJ_wI, zI_wJ, zobj_wI, zobj_wJ, zarr_wI, zarr_wJ, zS_wI, zS_wJ, o_192, a_193, a_194, a_195, a_196, a_197, a_198, a_199, a_200, a_201, a_202, a_203, a_204, a_205, a_206, a_207, a_208, a_209, a_210, r_192_0, r_192_1, r_192_2, r_192_3, r_192_4, r_192_5, r_192_7, r_192_8, r_192_14, r_192_16, r_192_17, r_192_18, r_192_19, r_192_20, r_192_22, r_192_23, r_192_25, r_192_26, zrI, zrL, zrR, ne_eq, true_and, and_true, true_or, or_true, not_true_eq_false, not_false_eq_true, false_and, and_false, forall_const, true_implies, false_implies, implies_true, reduceCtorEq, Int.reduceEq, Int.reduceNe, Int.reduceLT, Int.reduceLE, Int.reduceNeg, Nat.reduceEqDiff, if_true, if_false, reduceIte, Int.reduceMul, Int.reduceAdd, Int.reduceSub]
      exact ⟨by omega, by omega, by omega, q1 x0 x1 (by omega) (by omega)⟩
    · simp only [zrI, zrL, zrR, ne_eq, true_and, and_true, true_or, or_true, not_true_eq_false, not_false_eq_true, false_and, and_false, forall_const, true_implies, false_implies, implies_true, reduceCtorEq, Int.reduceEq, Int.reduceNe, Int.reduceLT, Int.reduceLE, Int.reduceNeg, Nat.reduceEqDiff, if_true, if_false, reduceIte, Int.reduceMul, Int.reduceAdd, Int.reduceSub]
      exact q0 (by omega)
  · simp only [zrI, zrL, zrR, ne_eq, true_and, and_true, true_or, or_true, not_true_eq_false, not_false_eq_true, false_and, and_false, forall_const, true_implies, false_implies, implies_true, reduceCtorEq, Int.reduceEq, Int.reduceNe, Int.reduceLT, Int.reduceLE, Int.reduceNeg, Nat.reduceEqDiff, if_true, if_false, reduceIte, Int.reduceMul, Int.reduceAdd, Int.reduceSub]
    exact q0 (by omega)
theorem m_same {Q : ZQ} {σ : ZM} {R : Int → SQ} {x y : Int} (hS : Shp σ) (hR : MRowsI σ R) (hx : -2147483648 ≤ x ∧ x ≤ 2147483647) (hy : -2147483648 ≤ y ∧ y ≤ 2147483647) (q0 : (x < 0 ∨ 3 < x ∨ y < 0 ∨ 3 < y) → Q (zi (-2)) σ) (q1 : 0 ≤ x → x ≤ 3 → 0 ≤ y → y ≤ 3 → ∀ r, SameR (R x) (R y) r → Q (zi r) σ) : WP m_Mod_same 0 [zr 192, zi x, zi y, zu] [] σ (0, 0) Q := by
  refine r_Mod_same_0 ?_
  simp only [hS, zrI, zrL, zrR, Shp_wI, Shp_wJ, zR_wI, zR_wJ, zJ_wI, zI_wJ, zobj_wI, zobj_wJ, zarr_wI, zarr_wJ, zS_wI, zS_wJ, o_192, a_193, a_194, a_195, a_196, a_197, a_198, a_199, a_200, a_201, a_202, a_203, a_204, a_205, a_206, a_207, a_208, a_209, a_210, r_192_0, r_192_1, r_192_2, r_192_3, r_192_4, r_192_5, r_192_7, r_192_8, r_192_14, r_192_16, r_192_17, r_192_18, r_192_19, r_192_20, r_192_22, r_192_23, r_192_25, r_192_26, zrI, zrL, zrR, ne_eq, true_and, and_true, true_or, or_true, not_true_eq_false, not_false_eq_true, false_and, and_false, forall_const, true_implies, false_implies, implies_true, reduceCtorEq, Int.reduceEq, Int.reduceNe, Int.reduceLT, Int.reduceLE, Int.reduceNeg, Nat.reduceEqDiff, if_true, if_false, reduceIte, Int.reduceMul, Int.reduceAdd, Int.reduceSub]
  refine t_mRow hx (fun x0 x1 => ?_) (fun c => ?_)
  · simp only [hS, zrI, zrL, zrR, Shp_wI, Shp_wJ, zR_wI, zR_wJ, zJ_wI, zI_wJ, zobj_wI, zobj_wJ, zarr_wI, zarr_wJ, zS_wI, zS_wJ, o_192, a_193, a_194, a_195, a_196, a_197, a_198, a_199, a_200, a_201, a_202, a_203, a_204, a_205, a_206, a_207, a_208, a_209, a_210, r_192_0, r_192_1, r_192_2, r_192_3, r_192_4, r_192_5, r_192_7, r_192_8, r_192_14, r_192_16, r_192_17, r_192_18, r_192_19, r_192_20, r_192_22, r_192_23, r_192_25, r_192_26, zrI, zrL, zrR, ne_eq, true_and, and_true, true_or, or_true, not_true_eq_false, not_false_eq_true, false_and, and_false, forall_const, true_implies, false_implies, implies_true, reduceCtorEq, Int.reduceEq, Int.reduceNe, Int.reduceLT, Int.reduceLE, Int.reduceNeg, Nat.reduceEqDiff, if_true, if_false, reduceIte, Int.reduceMul, Int.reduceAdd, Int.reduceSub]
    refine t_mRow hy (fun y0 y1 => ?_) (fun c => ?_)
    · simp only [zrI, zrL, zrR, ne_eq, true_and, and_true, true_or, or_true, not_true_eq_false, not_false_eq_true, false_and, and_false, forall_const, true_implies, false_implies, implies_true, reduceCtorEq, Int.reduceEq, Int.reduceNe, Int.reduceLT, Int.reduceLE, Int.reduceNeg, Nat.reduceEqDiff, if_true, if_false, reduceIte, Int.reduceMul, Int.reduceAdd, Int.reduceSub]
      have key : ∀ (m n : Nat), n + m = 401 → (∀ i, i < n → R x i = R y i) → WP m_Mod_same 21 [zr 192, zi x, zi y, zi (n : Int)] [] σ (0, 0) Q := by
        intro m
        induction m with
        | zero =>
          intro n hn hb
          refine r_Mod_same_21 ⟨fun _ => q1 x0 x1 y0 y1 _ (Or.inl ⟨rfl, fun i hi => hb i (by omega)⟩), fun c => by omega⟩
        | succ m ih =>
          intro n hn hb
          refine r_Mod_same_21 ?_
          simp only [hS, hR x x0 x1 n (by omega), hR y y0 y1 n (by omega), zlcmp_eq, zrI, zrL, zrR, Shp_wI, Shp_wJ, zR_wI, zR_wJ, zJ_wI, zI_wJ, zobj_wI, zobj_wJ, zarr_wI, zarr_wJ, zS_wI, zS_wJ, o_192, a_193, a_194, a_195, a_196, a_197, a_198, a_199, a_200, a_201, a_202, a_203, a_204, a_205, a_206, a_207, a_208, a_209, a_210, r_192_0, r_192_1, r_192_2, r_192_3, r_192_4, r_192_5, r_192_7, r_192_8, r_192_14, r_192_16, r_192_17, r_192_18, r_192_19, r_192_20, r_192_22, r_192_23, r_192_25, r_192_26, zrI, zrL, zrR, ne_eq, true_and, and_true, true_or, or_true, not_true_eq_false, not_false_eq_true, false_and, and_false, forall_const, true_implies, false_implies, implies_true, reduceCtorEq, Int.reduceEq, Int.reduceNe, Int.reduceLT, Int.reduceLE, Int.reduceNeg, Nat.reduceEqDiff, if_true, if_false, reduceIte, Int.reduceMul, Int.reduceAdd, Int.reduceSub]
          refine ⟨fun c => by omega, fun _ => ⟨by omega, by omega, by omega, by omega, by omega, by omega, fun c => ⟨by omega, ?_⟩, fun c => q1 x0 x1 y0 y1 _ (Or.inr ⟨n, rfl, by omega, c, hb⟩)⟩⟩
          have := ih (n + 1) (by omega) (fun i hi => by
            by_cases e : i = n
            · rw [e]; exact c
            · exact hb i (by omega))
          rw [Int.natCast_succ] at this
          exact this
      exact key 401 0 (by omega) (fun i hi => by omega)
    · simp only [zrI, zrL, zrR, ne_eq, true_and, and_true, true_or, or_true, not_true_eq_false, not_false_eq_true, false_and, and_false, forall_const, true_implies, false_implies, implies_true, reduceCtorEq, Int.reduceEq, Int.reduceNe, Int.reduceLT, Int.reduceLE, Int.reduceNeg, Nat.reduceEqDiff, if_true, if_false, reduceIte, Int.reduceMul, Int.reduceAdd, Int.reduceSub]
      exact q0 (by omega)
  · simp only [zrI, zrL, zrR, ne_eq, true_and, and_true, true_or, or_true, not_true_eq_false, not_false_eq_true, false_and, and_false, forall_const, true_implies, false_implies, implies_true, reduceCtorEq, Int.reduceEq, Int.reduceNe, Int.reduceLT, Int.reduceLE, Int.reduceNeg, Nat.reduceEqDiff, if_true, if_false, reduceIte, Int.reduceMul, Int.reduceAdd, Int.reduceSub]
    exact q0 (by omega)
