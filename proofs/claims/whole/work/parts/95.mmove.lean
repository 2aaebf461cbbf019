/-! move, of the reference: its loops -/
theorem ga_shL {l : List Int} {k e : Int} {n : Nat} {i : Int} (i0 : 0 ≤ i) (i1 : i < (n : Int)) : ga (shL l k e n) i = if i < k then ga l i + e else ga l i := by
  induction n with
  | zero => omega
  | succ n ih =>
    rw [shL_snoc, ga_app, shL_len]
    by_cases c : i = (n : Int)
    · rw [if_pos c, c]
    · rw [if_neg c]
      exact ih (by omega)
theorem MS.put8 {τ : ZM} {M : Int → List Int} {acc acc' : List Int} {j x : Int} (m : MS τ (upS M 8 acc)) (hln : acc'.length = acc.length) (j0 : 0 ≤ j) (j1 : j < (acc.length : Int)) (hv : ga acc' j = x) (ho : ∀ i, 0 ≤ i → i < (acc.length : Int) → i ≠ j → ga acc' i = ga acc i) : MS (wI τ 194 (3200 + j) x) (upS M 8 acc') := fun u u0 u1 => by
  obtain ⟨h1, h2, h3⟩ := m u u0 u1
  have h8 := m 8 (by omega) (by omega)
  have e8 : upS M 8 acc 8 = acc := upS_same
  rw [e8] at h8
  unfold upS at h1 h2 h3 ⊢
  by_cases e : u = 8
  · rw [if_pos e] at h1 h2 h3 ⊢
    rw [hln]
    refine ⟨by rw [zI_wI, if_neg (by omega)]; exact h1, h2, fun i i0 i1 => ?_⟩
    rw [zI_wI]
    by_cases c : i = j
    · rw [if_pos ⟨rfl, by omega⟩, c]
      exact hv.symm
    · rw [if_neg (by omega), ho i i0 i1 c]
      exact h3 i i0 i1
  · rw [if_neg e] at h1 h2 h3 ⊢
    refine ⟨by rw [zI_wI, if_neg (by omega)]; exact h1, h2, fun i i0 i1 => ?_⟩
    rw [zI_wI, if_neg (by
      have := h8.2.1
      omega)]
    exact h3 i i0 i1
theorem shL_put {τ : ZM} {M : Int → List Int} {l : List Int} {e : Int} {j n : Nat} (hj : j < n) (m : MS τ (upS M 8 (shL l (j : Int) e n))) : MS (wI τ 194 (3200 + (j : Int)) (ga l (j : Int) + e)) (upS M 8 (shL l ((j : Int) + 1) e n)) := by
  refine m.put8 (by rw [shL_len, shL_len]) (by omega) (by rw [shL_len]; omega) ?_ (fun i i0 i1 c => ?_)
  · rw [ga_shL (by omega) (by omega), if_pos (by omega)]
  · rw [shL_len] at i1
    rw [ga_shL i0 i1, ga_shL i0 i1]
    by_cases c2 : i < (j : Int)
    · rw [if_pos c2, if_pos (by omega)]
    · rw [if_neg c2, if_neg (by omega)]
theorem shL_get {τ : ZM} {M : Int → List Int} {l : List Int} {e : Int} {j n : Nat} (hj : j < n) (m : MS τ (upS M 8 (shL l (j : Int) e n))) : zI τ 194 (3200 + (j : Int)) = ga l (j : Int) := by
  have h := (m 8 (by omega) (by omega)).2.2 (j : Int) (by omega)
  have e8 : upS M 8 (shL l (j : Int) e n) 8 = shL l (j : Int) e n := upS_same
  rw [e8, shL_len] at h
  have := h (by omega)
  rw [ga_shL (by omega) (by omega), if_neg (by omega)] at this
  exact this
theorem t_mMove_144 {Q : ZQ} {M : Int → List Int} {l : List Int} {k n : Nat} (hp : Pt l) (hk : k ≤ n) (hn : n < 400) : ∀ (g j : Nat) (u1 u2 u3 : PV) (τ : ZM), j + g = k → Shp τ → MS τ (upS M 8 (shL l (j : Int) (-1) n)) → (∀ σ', MS σ' (upS M 8 (shL l (k : Int) (-1) n ++ [(k : Int)])) → Fr mfr τ σ' → Q zu σ') → WP m_Mod_move 144 [zr 192, u1, u2, u3, zi (k : Int), zi (j : Int)] [] τ (0, 0) Q := by
  intro g
  induction g with
  | zero =>
    intro j u1 u2 u3 τ hj hT mT q
    rw [show j = k by omega] at mT
    refine r_Mod_move_144 ?_
    simp only [hT, zrI, zrL, zrR, Shp_wI, Shp_wJ, zR_wI, zR_wJ, zJ_wI, zI_wJ, zobj_wI, zobj_wJ, zarr_wI, zarr_wJ, zS_wI, zS_wJ, o_192, a_193, a_194, a_195, a_196, a_197, a_198, a_199, a_200, a_201, a_202, a_203, a_204, a_205, a_206, a_207, a_208, a_209, a_210, r_192_0, r_192_1, r_192_2, r_192_3, r_192_4, r_192_5, r_192_7, r_192_8, r_192_14, r_192_16, r_192_17, r_192_18, r_192_19, r_192_20, r_192_22, r_192_23, r_192_25, r_192_26, zrI, zrL, zrR, ne_eq, true_and, and_true, true_or, or_true, not_true_eq_false, not_false_eq_true, false_and, and_false, forall_const, true_implies, false_implies, implies_true, reduceCtorEq, Int.reduceEq, Int.reduceNe, Int.reduceLT, Int.reduceLE, Int.reduceNeg, Nat.reduceEqDiff, if_true, if_false, reduceIte, Int.reduceMul, Int.reduceAdd, Int.reduceSub]
    exact ⟨fun _ => t_mPush' hT mT (by omega) (by omega) (by rw [shL_len]; exact hn) (fun υ j1 j2 => q υ j1 j2), fun c => by omega⟩
  | succ g ih =>
    intro j u1 u2 u3 τ hj hT mT q
    have hr := hp.rng (j : Int)
    have hv := shL_get (show j < n by omega) mT
    have mN := shL_put (show j < n by omega) mT
    refine r_Mod_move_144 ?_
    simp only [hT, hv, zrI, zrL, zrR, Shp_wI, Shp_wJ, zR_wI, zR_wJ, zJ_wI, zI_wJ, zobj_wI, zobj_wJ, zarr_wI, zarr_wJ, zS_wI, zS_wJ, o_192, a_193, a_194, a_195, a_196, a_197, a_198, a_199, a_200, a_201, a_202, a_203, a_204, a_205, a_206, a_207, a_208, a_209, a_210, r_192_0, r_192_1, r_192_2, r_192_3, r_192_4, r_192_5, r_192_7, r_192_8, r_192_14, r_192_16, r_192_17, r_192_18, r_192_19, r_192_20, r_192_22, r_192_23, r_192_25, r_192_26, zrI, zrL, zrR, ne_eq, true_and, and_true, true_or, or_true, not_true_eq_false, not_false_eq_true, false_and, and_false, forall_const, true_implies, false_implies, implies_true, reduceCtorEq, Int.reduceEq, Int.reduceNe, Int.reduceLT, Int.reduceLE, Int.reduceNeg, Nat.reduceEqDiff, if_true, if_false, reduceIte, Int.reduceMul, Int.reduceAdd, Int.reduceSub]
    refine ⟨fun c => by omega, fun _ => ⟨by omega, by omega, by omega, by omega, ?_⟩⟩
    have f1 : Fr mfr τ (wI τ 194 (3200 + (j : Int)) (ga l (j : Int) + -1)) := Fr.wI (Or.inl rfl)
    have := ih (j + 1) u1 u2 u3 _ (by omega) (f1.shp hT) (by rw [Int.natCast_succ]; exact mN) (fun υ w1 w2 => q υ w1 (f1.tr w2))
    rw [Int.natCast_succ, show ga l (j : Int) + -1 = ga l (j : Int) - 1 by omega] at this
    exact ⟨by omega, this⟩
theorem t_mMove_111 {Q : ZQ} {M : Int → List Int} {l : List Int} {k n : Nat} (hp : Pt l) (hk : k ≤ n) (hn : n < 400) : ∀ (g j : Nat) (u1 u2 u4 : PV) (τ : ZM), j + g = k → Shp τ → MS τ (upS M 8 (shL l (j : Int) 1 n)) → (∀ σ', MS σ' (upS M 8 (shL l (k : Int) 1 n)) → Fr mfr τ σ' → Q zu σ') → WP m_Mod_move 111 [zr 192, u1, u2, zi (k : Int), u4, zi (j : Int)] [] τ (0, 0) Q := by
  intro g
  induction g with
  | zero =>
    intro j u1 u2 u4 τ hj hT mT q
    rw [show j = k by omega] at mT
    exact r_Mod_move_111 ⟨fun _ => q τ mT Fr.rf, fun c => by omega⟩
  | succ g ih =>
    intro j u1 u2 u4 τ hj hT mT q
    have hr := hp.rng (j : Int)
    have hv := shL_get (show j < n by omega) mT
    have mN := shL_put (show j < n by omega) mT
    refine r_Mod_move_111 ?_
    simp only [hT, hv, zrI, zrL, zrR, Shp_wI, Shp_wJ, zR_wI, zR_wJ, zJ_wI, zI_wJ, zobj_wI, zobj_wJ, zarr_wI, zarr_wJ, zS_wI, zS_wJ, o_192, a_193, a_194, a_195, a_196, a_197, a_198, a_199, a_200, a_201, a_202, a_203, a_204, a_205, a_206, a_207, a_208, a_209, a_210, r_192_0, r_192_1, r_192_2, r_192_3, r_192_4, r_192_5, r_192_7, r_192_8, r_192_14, r_192_16, r_192_17, r_192_18, r_192_19, r_192_20, r_192_22, r_192_23, r_192_25, r_192_26, zrI, zrL, zrR, ne_eq, true_and, and_true, true_or, or_true, not_true_eq_false, not_false_eq_true, false_and, and_false, forall_const, true_implies, false_implies, implies_true, reduceCtorEq, Int.reduceEq, Int.reduceNe, Int.reduceLT, Int.reduceLE, Int.reduceNeg, Nat.reduceEqDiff, if_true, if_false, reduceIte, Int.reduceMul, Int.reduceAdd, Int.reduceSub]
    refine ⟨fun c => by omega, fun _ => ⟨by omega, by omega, by omega, by omega, ?_⟩⟩
    have f1 : Fr mfr τ (wI τ 194 (3200 + (j : Int)) (ga l (j : Int) + 1)) := Fr.wI (Or.inl rfl)
    have := ih (j + 1) u1 u2 (zkill u4) _ (by omega) (f1.shp hT) (by rw [Int.natCast_succ]; exact mN) (fun υ w1 w2 => q υ w1 (f1.tr w2))
    rw [Int.natCast_succ] at this
    exact ⟨by omega, this⟩
