/-! rank, tell, of the reference: the calls -/
theorem t_mIsSize' {Q : ZQ} {σ : ZM} {L : Int → LW} {l n : Int} (hS : Shp σ) (mL : MLaw σ L) (l0 : 0 ≤ l) (l1 : l ≤ 7) (hn : -2147483648 ≤ n ∧ n ≤ 2147483647) (q1 : 0 ≤ n → n ≤ covN (L l) → Q (zi 1) σ) (q0 : (n < 0 ∨ covN (L l) < n) → Q (zi 0) σ) : WP m_Mod_isSize 0 [zr 192, zi l, zi n] [] σ (0, 0) Q := t_mIsSize hS mL l0 l1 hn q1 q0
theorem sBt_step {W : Nat → Nat} {p : Nat} {x : Nat} (h : p ≤ x) : sBt W p (x + 1) = sBt W p x + W (x + 1) := by
  show (if p ≤ x then _ else 0) = _
  rw [if_pos h]
theorem m_rank {Q : ZQ} {σ : ZM} {N : List (Int × List Int)} {S : Int → List Int} {L : Int → LW} {l s : Int} (h : MI σ S N) (hp : PtS S) (mC : MCo σ L) (hl : -2147483648 ≤ l ∧ l ≤ 2147483647) (hs : -2147483648 ≤ s ∧ s ≤ 2147483647)
    (q0 : (l < 0 ∨ 7 < l ∨ s < 0 ∨ 7 < s ∨ 3 < L l 0 ∨ covN (L l) < (S s).sum) → Q (zl (Int64.ofNat 18446744073709551614)) σ)
    (q2 : 0 ≤ l → l ≤ 7 → 0 ≤ s → s ≤ 7 → L l 0 ≤ 3 → (S s).sum ≤ covN (L l) → ∀ r, ClashR (L l) (S s) r → r ≠ -1 → Q (zl (Int64.ofNat 18446744073709551613)) σ)
    (q1 : 0 ≤ l → l ≤ 7 → 0 ≤ s → s ≤ 7 → L l 0 ≤ 3 → (S s).sum ≤ covN (L l) → ClashR (L l) (S s) (-1) → ∀ σ', MCo σ' L → Fz mcf σ σ' → Q (zl (Int64.ofNat (rkF (L l) (S s) (S s).length 0 0 0 (S s).sum.toNat))) σ') : WP m_Mod_rank 0 [zr 192, zi l, zi s, zu, zu, zu, zu, zu, zu, zu, zu] [] σ (0, 0) Q := by
  obtain ⟨hS, hn, M, m, hM⟩ := h
  refine r_Mod_rank_0 (t_inN (n := 0) (m := 7) hl (by decide) (by decide) (fun l0 l1 => ?_) (fun c => ?_))
  · have l0 : 0 ≤ l := by omega
    have l1 : l ≤ 7 := by omega
    simp only [hS, zrI, zrL, zrR, Shp_wI, Shp_wJ, zR_wI, zR_wJ, zJ_wI, zI_wJ, zobj_wI, zobj_wJ, zarr_wI, zarr_wJ, zS_wI, zS_wJ, o_192, a_193, a_194, a_195, a_196, a_197, a_198, a_199, a_200, a_201, a_202, a_203, a_204, a_205, a_206, a_207, a_208, a_209, a_210, r_192_0, r_192_1, r_192_2, r_192_3, r_192_4, r_192_5, r_192_7, r_192_8, r_192_14, r_192_16, r_192_17, r_192_18, r_192_19, r_192_20, r_192_22, r_192_23, r_192_25, r_192_26, zrI, zrL, zrR, ne_eq, true_and, and_true, true_or, or_true, not_true_eq_false, not_false_eq_true, false_and, and_false, forall_const, true_implies, false_implies, implies_true, reduceCtorEq, Int.reduceEq, Int.reduceNe, Int.reduceLT, Int.reduceLE, Int.reduceNeg, Nat.reduceEqDiff, if_true, if_false, reduceIte, Int.reduceMul, Int.reduceAdd, Int.reduceSub]
    refine t_mSheet hs (fun s0 s1 => ?_) (fun c => ?_)
    · have eM := hM s s0 s1
      have hp := hp s s0 s1
      have hlen := hp.len
      have h4 := hp.2.1
      have ok := (mC.1 l l0 l1).1
      simp only [hS, zrI, zrL, zrR, Shp_wI, Shp_wJ, zR_wI, zR_wJ, zJ_wI, zI_wJ, zobj_wI, zobj_wJ, zarr_wI, zarr_wJ, zS_wI, zS_wJ, o_192, a_193, a_194, a_195, a_196, a_197, a_198, a_199, a_200, a_201, a_202, a_203, a_204, a_205, a_206, a_207, a_208, a_209, a_210, r_192_0, r_192_1, r_192_2, r_192_3, r_192_4, r_192_5, r_192_7, r_192_8, r_192_14, r_192_16, r_192_17, r_192_18, r_192_19, r_192_20, r_192_22, r_192_23, r_192_25, r_192_26, zrI, zrL, zrR, ne_eq, true_and, and_true, true_or, or_true, not_true_eq_false, not_false_eq_true, false_and, and_false, forall_const, true_implies, false_implies, implies_true, reduceCtorEq, Int.reduceEq, Int.reduceNe, Int.reduceLT, Int.reduceLE, Int.reduceNeg, Nat.reduceEqDiff, if_true, if_false, reduceIte, Int.reduceMul, Int.reduceAdd, Int.reduceSub]
      refine t_mKind hS mC.1 l0 l1 ?_
      simp only [hS, zrI, zrL, zrR, Shp_wI, Shp_wJ, zR_wI, zR_wJ, zJ_wI, zI_wJ, zobj_wI, zobj_wJ, zarr_wI, zarr_wJ, zS_wI, zS_wJ, o_192, a_193, a_194, a_195, a_196, a_197, a_198, a_199, a_200, a_201, a_202, a_203, a_204, a_205, a_206, a_207, a_208, a_209, a_210, r_192_0, r_192_1, r_192_2, r_192_3, r_192_4, r_192_5, r_192_7, r_192_8, r_192_14, r_192_16, r_192_17, r_192_18, r_192_19, r_192_20, r_192_22, r_192_23, r_192_25, r_192_26, zrI, zrL, zrR, ne_eq, true_and, and_true, true_or, or_true, not_true_eq_false, not_false_eq_true, false_and, and_false, forall_const, true_implies, false_implies, implies_true, reduceCtorEq, Int.reduceEq, Int.reduceNe, Int.reduceLT, Int.reduceLE, Int.reduceNeg, Nat.reduceEqDiff, if_true, if_false, reduceIte, Int.reduceMul, Int.reduceAdd, Int.reduceSub]
      refine ⟨fun c => q0 (by omega), fun hw => t_mSize hS m s0 (by omega) (by rw [eM]; exact hp) ?_⟩
      simp only [hS, eM, zrI, zrL, zrR, Shp_wI, Shp_wJ, zR_wI, zR_wJ, zJ_wI, zI_wJ, zobj_wI, zobj_wJ, zarr_wI, zarr_wJ, zS_wI, zS_wJ, o_192, a_193, a_194, a_195, a_196, a_197, a_198, a_199, a_200, a_201, a_202, a_203, a_204, a_205, a_206, a_207, a_208, a_209, a_210, r_192_0, r_192_1, r_192_2, r_192_3, r_192_4, r_192_5, r_192_7, r_192_8, r_192_14, r_192_16, r_192_17, r_192_18, r_192_19, r_192_20, r_192_22, r_192_23, r_192_25, r_192_26, zrI, zrL, zrR, ne_eq, true_and, and_true, true_or, or_true, not_true_eq_false, not_false_eq_true, false_and, and_false, forall_const, true_implies, false_implies, implies_true, reduceCtorEq, Int.reduceEq, Int.reduceNe, Int.reduceLT, Int.reduceLE, Int.reduceNeg, Nat.reduceEqDiff, if_true, if_false, reduceIte, Int.reduceMul, Int.reduceAdd, Int.reduceSub]
      refine t_mIsSize' hS mC.1 l0 l1 (by omega) (fun n0 n1 => ?_) (fun c => ?_)
      · simp only [hS, zrI, zrL, zrR, Shp_wI, Shp_wJ, zR_wI, zR_wJ, zJ_wI, zI_wJ, zobj_wI, zobj_wJ, zarr_wI, zarr_wJ, zS_wI, zS_wJ, o_192, a_193, a_194, a_195, a_196, a_197, a_198, a_199, a_200, a_201, a_202, a_203, a_204, a_205, a_206, a_207, a_208, a_209, a_210, r_192_0, r_192_1, r_192_2, r_192_3, r_192_4, r_192_5, r_192_7, r_192_8, r_192_14, r_192_16, r_192_17, r_192_18, r_192_19, r_192_20, r_192_22, r_192_23, r_192_25, r_192_26, zrI, zrL, zrR, ne_eq, true_and, and_true, true_or, or_true, not_true_eq_false, not_false_eq_true, false_and, and_false, forall_const, true_implies, false_implies, implies_true, reduceCtorEq, Int.reduceEq, Int.reduceNe, Int.reduceLT, Int.reduceLE, Int.reduceNeg, Nat.reduceEqDiff, if_true, if_false, reduceIte, Int.reduceMul, Int.reduceAdd, Int.reduceSub]
        refine t_mClashOf hS m mC.1 l0 l1 s0 (by omega) (by rw [eM]; exact hp) (fun r hr => ?_)
        rw [eM] at hr
        simp only [hS, zrI, zrL, zrR, Shp_wI, Shp_wJ, zR_wI, zR_wJ, zJ_wI, zI_wJ, zobj_wI, zobj_wJ, zarr_wI, zarr_wJ, zS_wI, zS_wJ, o_192, a_193, a_194, a_195, a_196, a_197, a_198, a_199, a_200, a_201, a_202, a_203, a_204, a_205, a_206, a_207, a_208, a_209, a_210, r_192_0, r_192_1, r_192_2, r_192_3, r_192_4, r_192_5, r_192_7, r_192_8, r_192_14, r_192_16, r_192_17, r_192_18, r_192_19, r_192_20, r_192_22, r_192_23, r_192_25, r_192_26, zrI, zrL, zrR, ne_eq, true_and, and_true, true_or, or_true, not_true_eq_false, not_false_eq_true, false_and, and_false, forall_const, true_implies, false_implies, implies_true, reduceCtorEq, Int.reduceEq, Int.reduceNe, Int.reduceLT, Int.reduceLE, Int.reduceNeg, Nat.reduceEqDiff, if_true, if_false, reduceIte, Int.reduceMul, Int.reduceAdd, Int.reduceSub]
        refine ⟨fun e => ?_, fun e => q2 l0 l1 s0 s1 hw n1 r hr e⟩
        rw [e] at hr
        refine t_mMakeFor hS mC l0 l1 hw (fun τ w1 w2 w3 => ?_)
        have hT := w3.shp hS
        have mT := w3.ms (fun j => by omega) (fun j => by omega) m
        obtain ⟨g1, g2, g3⟩ := mT s s0 (by omega)
        simp only [hT, zrI, zrL, zrR, Shp_wI, Shp_wJ, zR_wI, zR_wJ, zJ_wI, zI_wJ, zobj_wI, zobj_wJ, zarr_wI, zarr_wJ, zS_wI, zS_wJ, o_192, a_193, a_194, a_195, a_196, a_197, a_198, a_199, a_200, a_201, a_202, a_203, a_204, a_205, a_206, a_207, a_208, a_209, a_210, r_192_0, r_192_1, r_192_2, r_192_3, r_192_4, r_192_5, r_192_7, r_192_8, r_192_14, r_192_16, r_192_17, r_192_18, r_192_19, r_192_20, r_192_22, r_192_23, r_192_25, r_192_26, zrI, zrL, zrR, ne_eq, true_and, and_true, true_or, or_true, not_true_eq_false, not_false_eq_true, false_and, and_false, forall_const, true_implies, false_implies, implies_true, reduceCtorEq, Int.reduceEq, Int.reduceNe, Int.reduceLT, Int.reduceLE, Int.reduceNeg, Nat.reduceEqDiff, if_true, if_false, reduceIte, Int.reduceMul, Int.reduceAdd, Int.reduceSub]
        refine t_mSize hT mT s0 (by omega) (by rw [eM]; exact hp) ?_
        simp only [eM, zrI, zrL, zrR, ne_eq, true_and, and_true, true_or, or_true, not_true_eq_false, not_false_eq_true, false_and, and_false, forall_const, true_implies, false_implies, implies_true, reduceCtorEq, Int.reduceEq, Int.reduceNe, Int.reduceLT, Int.reduceLE, Int.reduceNeg, Nat.reduceEqDiff, if_true, if_false, reduceIte, Int.reduceMul, Int.reduceAdd, Int.reduceSub]
        have main : ∀ (f : Nat) (i b o n acc : Nat) (u9 u10 : PV), i + f = (S s).length → (n : Int) = (S s).sum - ((S s).take i).sum → b ≤ 400 → o ≤ i → (i = 0 → b = n) → (0 < i → 1 ≤ b) → (∀ j : Nat, j < (S s).length → i ≤ j → 0 < i → ga (S s) j ≤ b) → Q (zl (Int64.ofNat (acc + rkF (L l) (S s) f i b o n))) τ → WP m_Mod_rank 84 [zr 192, zi l, zi s, zl (Int64.ofNat acc), zu, zi (n : Int), zi (o : Int), zi (b : Int), zi (i : Int), u9, u10] [] τ (0, 0) Q := by
          intro f
          induction f with
          | zero =>
            intro i b o n acc u9 u10 hi hn hb ho hb0 hb1 hdn q
            refine r_Mod_rank_84 ?_
            simp only [hT, g1, eM, zrI, zrL, zrR, Shp_wI, Shp_wJ, zR_wI, zR_wJ, zJ_wI, zI_wJ, zobj_wI, zobj_wJ, zarr_wI, zarr_wJ, zS_wI, zS_wJ, o_192, a_193, a_194, a_195, a_196, a_197, a_198, a_199, a_200, a_201, a_202, a_203, a_204, a_205, a_206, a_207, a_208, a_209, a_210, r_192_0, r_192_1, r_192_2, r_192_3, r_192_4, r_192_5, r_192_7, r_192_8, r_192_14, r_192_16, r_192_17, r_192_18, r_192_19, r_192_20, r_192_22, r_192_23, r_192_25, r_192_26, zrI, zrL, zrR, ne_eq, true_and, and_true, true_or, or_true, not_true_eq_false, not_false_eq_true, false_and, and_false, forall_const, true_implies, false_implies, implies_true, reduceCtorEq, Int.reduceEq, Int.reduceNe, Int.reduceLT, Int.reduceLE, Int.reduceNeg, Nat.reduceEqDiff, if_true, if_false, reduceIte, Int.reduceMul, Int.reduceAdd, Int.reduceSub]
            exact ⟨by omega, fun _ => q, fun c => by omega⟩
          | succ f ih =>
            intro i b o n acc u9 u10 hi hn hb ho hb0 hb1 hdn q
            have hpos := hp.pos (i := (i : Int)) (by omega) (by omega)
            have hrg := hp.rng (i : Int)
            have hst := sum_take (S s) (i + 1) hp.1
            have esn := take_snoc (l := S s) (i := (i : Int)) (by omega) (by omega)
            rw [show ((i : Int) + 1).toNat = i + 1 by omega, Int.toNat_natCast] at esn
            have esum : ((S s).take (i + 1)).sum = ((S s).take i).sum + ga (S s) i := by rw [esn]; simp
            obtain ⟨v, hv⟩ : ∃ v : Nat, ga (S s) (i : Int) = (v : Int) := ⟨(ga (S s) i).toNat, by omega⟩
            have ev : (ga (S s) (i : Int)).toNat = v := by omega
            have hst0 := sum_take (S s) i hp.1
            have hvn : v ≤ n := by omega
            refine r_Mod_rank_84 ?_
            simp only [hT, g1, eM, zrI, zrL, zrR, Shp_wI, Shp_wJ, zR_wI, zR_wJ, zJ_wI, zI_wJ, zobj_wI, zobj_wJ, zarr_wI, zarr_wJ, zS_wI, zS_wJ, o_192, a_193, a_194, a_195, a_196, a_197, a_198, a_199, a_200, a_201, a_202, a_203, a_204, a_205, a_206, a_207, a_208, a_209, a_210, r_192_0, r_192_1, r_192_2, r_192_3, r_192_4, r_192_5, r_192_7, r_192_8, r_192_14, r_192_16, r_192_17, r_192_18, r_192_19, r_192_20, r_192_22, r_192_23, r_192_25, r_192_26, zrI, zrL, zrR, ne_eq, true_and, and_true, true_or, or_true, not_true_eq_false, not_false_eq_true, false_and, and_false, forall_const, true_implies, false_implies, implies_true, reduceCtorEq, Int.reduceEq, Int.reduceNe, Int.reduceLT, Int.reduceLE, Int.reduceNeg, Nat.reduceEqDiff, if_true, if_false, reduceIte, Int.reduceMul, Int.reduceAdd, Int.reduceSub]
            refine ⟨by omega, fun c => by omega, fun _ => t_mAt hT mT s0 (by omega) (by omega) ?_⟩
            simp only [hT, eM, hv, zrI, zrL, zrR, Shp_wI, Shp_wJ, zR_wI, zR_wJ, zJ_wI, zI_wJ, zobj_wI, zobj_wJ, zarr_wI, zarr_wJ, zS_wI, zS_wJ, o_192, a_193, a_194, a_195, a_196, a_197, a_198, a_199, a_200, a_201, a_202, a_203, a_204, a_205, a_206, a_207, a_208, a_209, a_210, r_192_0, r_192_1, r_192_2, r_192_3, r_192_4, r_192_5, r_192_7, r_192_8, r_192_14, r_192_16, r_192_17, r_192_18, r_192_19, r_192_20, r_192_22, r_192_23, r_192_25, r_192_26, zrI, zrL, zrR, ne_eq, true_and, and_true, true_or, or_true, not_true_eq_false, not_false_eq_true, false_and, and_false, forall_const, true_implies, false_implies, implies_true, reduceCtorEq, Int.reduceEq, Int.reduceNe, Int.reduceLT, Int.reduceLE, Int.reduceNeg, Nat.reduceEqDiff, if_true, if_false, reduceIte, Int.reduceMul, Int.reduceAdd, Int.reduceSub]
            refine ⟨by omega, ?_⟩
            have nx : ∀ (acc' : Nat) (o' : Int) (u9 u10 : PV), acc' = acc + sBt (WN (L l) i b o n) v (topN i b n) → o' = ((hadN i b o v + 1 : Nat) : Int) → WP m_Mod_rank 84 [zr 192, zi l, zi s, zl (Int64.ofNat acc'), zu, zi ((n : Int) - (v : Int)), zi o', zi (v : Int), zi ((i : Int) + 1), u9, u10] [] τ (0, 0) Q := fun acc' o' u9 u10 ha ho' => by
              have hh : hadN i b o v ≤ o := by unfold hadN; split <;> omega
              have := ih (i + 1) v (hadN i b o v + 1) (n - v) acc' u9 u10 (by omega) (by omega) (by omega) (by omega) (fun h => by omega) (fun _ => by omega) (fun j j1 j2 _ => by
                have := hp.2.2 (i : Int) (j : Int) (by omega) (by omega)
                omega) (by
                have e : acc + rkF (L l) (S s) (f + 1) i b o n = acc' + rkF (L l) (S s) f (i + 1) v (hadN i b o v + 1) (n - v) := by
                  show acc + (sBt (WN (L l) i b o n) (ga (S s) i).toNat (topN i b n) + rkF (L l) (S s) f (i + 1) (ga (S s) i).toNat (hadN i b o (ga (S s) i).toNat + 1) (n - (ga (S s) i).toNat)) = _
                  rw [ev]
                  omega
                rw [e] at q
                exact q)
              rw [← ho', Int.natCast_succ i, show ((n - v : Nat) : Int) = (n : Int) - (v : Int) by omega] at this
              exact this
            have htop : topN i b n = min b n := by unfold topN; split <;> omega
            have hvb : v ≤ topN i b n := by
              rw [htop]
              rcases Nat.eq_zero_or_pos i with z | z
              · have := hb0 z; omega
              · have := hdn i (by omega) (Nat.le_refl _) z; omega
            have fin : ∀ (acc' : Nat) (x : Int), acc' = acc + sBt (WN (L l) i b o n) v (topN i b n) → ((i : Int) ≤ 0 → ((-2147483648 ≤ ((n : Int) - (v : Int) : Int) ∧ ((n : Int) - (v : Int) : Int) ≤ 2147483647) ∧ ((-2147483648 ≤ ((i : Int) + 1 : Int) ∧ ((i : Int) + 1 : Int) ≤ 2147483647) ∧ WP m_Mod_rank 84 [zr 192, zi l, zi s, zl (Int64.ofNat acc'), zu, zi ((n : Int) - (v : Int)), zi 1, zi (v : Int), zi ((i : Int) + 1), zi (v : Int), zi x] [] τ (0, 0) Q))) ∧ (0 < (i : Int) → (((b : Int) ≠ (v : Int) → ((-2147483648 ≤ ((n : Int) - (v : Int) : Int) ∧ ((n : Int) - (v : Int) : Int) ≤ 2147483647) ∧ ((-2147483648 ≤ ((i : Int) + 1 : Int) ∧ ((i : Int) + 1 : Int) ≤ 2147483647) ∧ WP m_Mod_rank 84 [zr 192, zi l, zi s, zl (Int64.ofNat acc'), zu, zi ((n : Int) - (v : Int)), zi 1, zi (v : Int), zi ((i : Int) + 1), zi (v : Int), zi x] [] τ (0, 0) Q))) ∧ ((b : Int) = (v : Int) → ((-2147483648 ≤ ((o : Int) + 1 : Int) ∧ ((o : Int) + 1 : Int) ≤ 2147483647) ∧ ((-2147483648 ≤ ((n : Int) - (v : Int) : Int) ∧ ((n : Int) - (v : Int) : Int) ≤ 2147483647) ∧ ((-2147483648 ≤ ((i : Int) + 1 : Int) ∧ ((i : Int) + 1 : Int) ≤ 2147483647) ∧ WP m_Mod_rank 84 [zr 192, zi l, zi s, zl (Int64.ofNat acc'), zu, zi ((n : Int) - (v : Int)), zi ((o : Int) + 1), zi (v : Int), zi ((i : Int) + 1), zi (v : Int), zi x] [] τ (0, 0) Q)))))) := by
              intro acc' x ha
              refine ⟨fun c => ⟨by omega, by omega, nx acc' 1 _ _ ha ?_⟩, fun c => ⟨fun c2 => ⟨by omega, by omega, nx acc' 1 _ _ ha ?_⟩, fun c2 => ⟨by omega, by omega, by omega, nx acc' _ _ _ ha ?_⟩⟩⟩
              · unfold hadN; rw [if_neg (by omega)]; rfl
              · unfold hadN; rw [if_neg (by omega)]; rfl
              · unfold hadN; rw [if_pos (by omega)]; omega
            have loop : ∀ (g x acc' : Nat), x + g = topN i b n → v ≤ x → acc' = acc + sBt (WN (L l) i b o n) v x → WP m_Mod_rank 110 [zr 192, zi l, zi s, zl (Int64.ofNat acc'), zu, zi (n : Int), zi (o : Int), zi (b : Int), zi (i : Int), zi (v : Int), zi ((x : Int) + 1)] [] τ (0, 0) Q := by
              intro g
              induction g with
              | zero =>
                intro x acc' hx hvx ha
                rw [show x = topN i b n by omega] at ha
                refine r_Mod_rank_110 ⟨fun _ => fin acc' _ ha, fun c => ⟨fun _ => fin acc' _ ha, fun c2 => by omega⟩⟩
              | succ g ihg =>
                intro x acc' hx hvx ha
                refine r_Mod_rank_110 ⟨fun c => by omega, fun _ => ⟨fun c => by omega, fun _ => ⟨hT.obj (by decide) (by decide) rfl, ?_⟩⟩⟩
                have := t_mWays (Q := (fun r1 σ2 => zrL r1 (fun y3 => ((-2147483648 ≤ (((x + 1 : Nat) : Int) + 1 : Int) ∧ (((x + 1 : Nat) : Int) + 1 : Int) ≤ 2147483647) ∧ WP m_Mod_rank 110 [zr 192, zi l, zi s, zl (Int64.ofNat acc' + y3), zu, zi (n : Int), zi (o : Int), zi (b : Int), zi (i : Int), zi (v : Int), zi (((x + 1 : Nat) : Int) + 1)] [] σ2 (0, 0) Q)))) (i := i) (b := b) (o := o) (n := n) (v := x + 1) hT w1.1 l0 l1 hw w2 (by omega) (by omega) (by omega) hb (by omega) (by omega) (by
                  refine ⟨by omega, ?_⟩
                  rw [← Int64.ofNat_add]
                  exact ihg (x + 1) (acc' + WN (L l) i b o n (x + 1)) (by omega) (by omega) (by rw [sBt_step hvx]; omega))
                rw [Int.natCast_succ] at this
                exact this
            exact loop (topN i b n - v) v acc (by omega) (Nat.le_refl _) (by rw [sBt_low v (Nat.le_refl _), Nat.add_zero])
        have e0 : (S s).sum = ((S s).sum.toNat : Int) := by omega
        rw [e0]
        refine main (S s).length 0 (S s).sum.toNat 0 (S s).sum.toNat 0 _ _ (by omega) (by simp; omega) (by omega) (Nat.le_refl _) (fun _ => rfl) (fun c => by omega) (fun j _ _ c => by omega) ?_
        rw [Nat.zero_add, rkF_zero]
        exact q1 l0 l1 s0 s1 hw n1 hr τ w1 w3
      · simp only [zrI, zrL, zrR, ne_eq, true_and, and_true, true_or, or_true, not_true_eq_false, not_false_eq_true, false_and, and_false, forall_const, true_implies, false_implies, implies_true, reduceCtorEq, Int.reduceEq, Int.reduceNe, Int.reduceLT, Int.reduceLE, Int.reduceNeg, Nat.reduceEqDiff, if_true, if_false, reduceIte, Int.reduceMul, Int.reduceAdd, Int.reduceSub]
        exact q0 (by omega)
    · simp only [zrI, zrL, zrR, ne_eq, true_and, and_true, true_or, or_true, not_true_eq_false, not_false_eq_true, false_and, and_false, forall_const, true_implies, false_implies, implies_true, reduceCtorEq, Int.reduceEq, Int.reduceNe, Int.reduceLT, Int.reduceLE, Int.reduceNeg, Nat.reduceEqDiff, if_true, if_false, reduceIte, Int.reduceMul, Int.reduceAdd, Int.reduceSub]
      exact q0 (by omega)
  · simp only [zrI, zrL, zrR, ne_eq, true_and, and_true, true_or, or_true, not_true_eq_false, not_false_eq_true, false_and, and_false, forall_const, true_implies, false_implies, implies_true, reduceCtorEq, Int.reduceEq, Int.reduceNe, Int.reduceLT, Int.reduceLE, Int.reduceNeg, Nat.reduceEqDiff, if_true, if_false, reduceIte, Int.reduceMul, Int.reduceAdd, Int.reduceSub]
    exact q0 (by omega)
theorem tlL_zero {w : LW} {f b o n r : Nat} : tlL w f 0 b o n r = tlL w f 0 0 0 n r := by
  cases f with
  | zero => rfl
  | succ f =>
    by_cases hn : n = 0
    · rw [hn, tlL_done, tlL_done]
    · rw [tlL_step hn, tlL_step hn]
      have e1 : WN w 0 b o n = WN w 0 0 0 n := by funext v; exact WN_zero
      have e2 : topN 0 b n = topN 0 0 n := rfl
      have e3 : ∀ v, hadN 0 b o v = hadN 0 0 0 v := fun v => by unfold hadN; rw [if_neg (by omega), if_neg (by omega)]
      rw [e1, e2, e3]
abbrev mtl (a : Nat) (j : Int) : Prop := mcf a j ∨ maf a j
theorem m_tell {Q : ZQ} {σ : ZM} {N : List (Int × List Int)} {S : Int → List Int} {L : Int → LW} {l n s : Int} {R : Int64} (h : MI σ S N) (mC : MCo σ L) (hl : -2147483648 ≤ l ∧ l ≤ 2147483647) (hs : -2147483648 ≤ s ∧ s ≤ 2147483647) (hn : -2147483648 ≤ n ∧ n ≤ 2147483647)
    (q0 : (l < 0 ∨ 7 < l ∨ s < 0 ∨ 7 < s ∨ 3 < L l 0 ∨ n < 0 ∨ covN (L l) < n ∨ R.toInt < 0 ∨ (cntS (L l) n.toNat).toInt ≤ R.toInt) → ∀ σ', MCo σ' L → Fz mcf σ σ' → Q (zi (-2)) σ')
    (q1 : 0 ≤ l → l ≤ 7 → 0 ≤ s → s ≤ 7 → L l 0 ≤ 3 → 0 ≤ n → n ≤ covN (L l) → 0 ≤ R.toInt → R.toInt < (cntS (L l) n.toNat).toInt → ∀ σ', MI σ' (upS S s (tlL (L l) 400 0 0 0 n.toNat R.toInt.toNat)) (actN S N s) → MCo σ' L → Fz mtl σ σ' → Q (zi ((tlL (L l) 400 0 0 0 n.toNat R.toInt.toNat).length : Int)) σ') : WP m_Mod_tell 0 [zr 192, zi l, zi n, zl R, zu, zi s, zu, zu, zu, zu, zu, zu, zu, zu, zu] [] σ (0, 0) Q := by
  obtain ⟨hS, hN, M, m, hM⟩ := h
  refine r_Mod_tell_0 (t_inN (n := 0) (m := 7) hl (by decide) (by decide) (fun l0 l1 => ?_) (fun c => ?_))
  · have l0 : 0 ≤ l := by omega
    have l1 : l ≤ 7 := by omega
    simp only [hS, zrI, zrL, zrR, Shp_wI, Shp_wJ, zR_wI, zR_wJ, zJ_wI, zI_wJ, zobj_wI, zobj_wJ, zarr_wI, zarr_wJ, zS_wI, zS_wJ, o_192, a_193, a_194, a_195, a_196, a_197, a_198, a_199, a_200, a_201, a_202, a_203, a_204, a_205, a_206, a_207, a_208, a_209, a_210, r_192_0, r_192_1, r_192_2, r_192_3, r_192_4, r_192_5, r_192_7, r_192_8, r_192_14, r_192_16, r_192_17, r_192_18, r_192_19, r_192_20, r_192_22, r_192_23, r_192_25, r_192_26, zrI, zrL, zrR, ne_eq, true_and, and_true, true_or, or_true, not_true_eq_false, not_false_eq_true, false_and, and_false, forall_const, true_implies, false_implies, implies_true, reduceCtorEq, Int.reduceEq, Int.reduceNe, Int.reduceLT, Int.reduceLE, Int.reduceNeg, Nat.reduceEqDiff, if_true, if_false, reduceIte, Int.reduceMul, Int.reduceAdd, Int.reduceSub]
    refine t_mSheet hs (fun s0 s1 => ?_) (fun c => ?_)
    · have ok := (mC.1 l l0 l1).1
      simp only [hS, zrI, zrL, zrR, Shp_wI, Shp_wJ, zR_wI, zR_wJ, zJ_wI, zI_wJ, zobj_wI, zobj_wJ, zarr_wI, zarr_wJ, zS_wI, zS_wJ, o_192, a_193, a_194, a_195, a_196, a_197, a_198, a_199, a_200, a_201, a_202, a_203, a_204, a_205, a_206, a_207, a_208, a_209, a_210, r_192_0, r_192_1, r_192_2, r_192_3, r_192_4, r_192_5, r_192_7, r_192_8, r_192_14, r_192_16, r_192_17, r_192_18, r_192_19, r_192_20, r_192_22, r_192_23, r_192_25, r_192_26, zrI, zrL, zrR, ne_eq, true_and, and_true, true_or, or_true, not_true_eq_false, not_false_eq_true, false_and, and_false, forall_const, true_implies, false_implies, implies_true, reduceCtorEq, Int.reduceEq, Int.reduceNe, Int.reduceLT, Int.reduceLE, Int.reduceNeg, Nat.reduceEqDiff, if_true, if_false, reduceIte, Int.reduceMul, Int.reduceAdd, Int.reduceSub]
      refine t_mKind hS mC.1 l0 l1 ?_
      simp only [hS, zrI, zrL, zrR, Shp_wI, Shp_wJ, zR_wI, zR_wJ, zJ_wI, zI_wJ, zobj_wI, zobj_wJ, zarr_wI, zarr_wJ, zS_wI, zS_wJ, o_192, a_193, a_194, a_195, a_196, a_197, a_198, a_199, a_200, a_201, a_202, a_203, a_204, a_205, a_206, a_207, a_208, a_209, a_210, r_192_0, r_192_1, r_192_2, r_192_3, r_192_4, r_192_5, r_192_7, r_192_8, r_192_14, r_192_16, r_192_17, r_192_18, r_192_19, r_192_20, r_192_22, r_192_23, r_192_25, r_192_26, zrI, zrL, zrR, ne_eq, true_and, and_true, true_or, or_true, not_true_eq_false, not_false_eq_true, false_and, and_false, forall_const, true_implies, false_implies, implies_true, reduceCtorEq, Int.reduceEq, Int.reduceNe, Int.reduceLT, Int.reduceLE, Int.reduceNeg, Nat.reduceEqDiff, if_true, if_false, reduceIte, Int.reduceMul, Int.reduceAdd, Int.reduceSub]
      refine ⟨fun c => q0 (by omega) σ mC Fz.rf, fun hw => t_mIsSize hS mC.1 l0 l1 hn (fun n0 n1 => ?_) (fun c => ?_)⟩
      · have n4 : n ≤ 400 := by unfold covN at n1; split at n1 <;> omega
        simp only [hS, zrI, zrL, zrR, Shp_wI, Shp_wJ, zR_wI, zR_wJ, zJ_wI, zI_wJ, zobj_wI, zobj_wJ, zarr_wI, zarr_wJ, zS_wI, zS_wJ, o_192, a_193, a_194, a_195, a_196, a_197, a_198, a_199, a_200, a_201, a_202, a_203, a_204, a_205, a_206, a_207, a_208, a_209, a_210, r_192_0, r_192_1, r_192_2, r_192_3, r_192_4, r_192_5, r_192_7, r_192_8, r_192_14, r_192_16, r_192_17, r_192_18, r_192_19, r_192_20, r_192_22, r_192_23, r_192_25, r_192_26, zrI, zrL, zrR, ne_eq, true_and, and_true, true_or, or_true, not_true_eq_false, not_false_eq_true, false_and, and_false, forall_const, true_implies, false_implies, implies_true, reduceCtorEq, Int.reduceEq, Int.reduceNe, Int.reduceLT, Int.reduceLE, Int.reduceNeg, Nat.reduceEqDiff, if_true, if_false, reduceIte, Int.reduceMul, Int.reduceAdd, Int.reduceSub]
        refine ⟨fun c => ?_, fun c => t_mCountOf hS mC l0 l1 n0 n1 (fun τ w1 w2 => ?_)⟩
        · rw [zlcmp_lt] at c
          exact q0 (by have : R.toInt < 0 := c; omega) σ mC Fz.rf
        · have hR0 : 0 ≤ R.toInt := by
            rcases Int.lt_or_le R.toInt 0 with z | z
            · have := (zlcmp_lt (x := R) (y := 0)).mpr z
              omega
            · exact z
          have hT := w2.shp hS
          simp only [hT, zrI, zrL, zrR, Shp_wI, Shp_wJ, zR_wI, zR_wJ, zJ_wI, zI_wJ, zobj_wI, zobj_wJ, zarr_wI, zarr_wJ, zS_wI, zS_wJ, o_192, a_193, a_194, a_195, a_196, a_197, a_198, a_199, a_200, a_201, a_202, a_203, a_204, a_205, a_206, a_207, a_208, a_209, a_210, r_192_0, r_192_1, r_192_2, r_192_3, r_192_4, r_192_5, r_192_7, r_192_8, r_192_14, r_192_16, r_192_17, r_192_18, r_192_19, r_192_20, r_192_22, r_192_23, r_192_25, r_192_26, zrI, zrL, zrR, ne_eq, true_and, and_true, true_or, or_true, not_true_eq_false, not_false_eq_true, false_and, and_false, forall_const, true_implies, false_implies, implies_true, reduceCtorEq, Int.reduceEq, Int.reduceNe, Int.reduceLT, Int.reduceLE, Int.reduceNeg, Nat.reduceEqDiff, if_true, if_false, reduceIte, Int.reduceMul, Int.reduceAdd, Int.reduceSub]
          refine ⟨fun c2 => t_mMakeFor hT w1 l0 l1 hw (fun υ v1 v2 v3 => ?_), fun c2 => ?_⟩
          · rw [zlcmp_lt] at c2
            have eR : R = Int64.ofNat R.toInt.toNat := by
              rw [← Int64.ofInt_eq_ofNat, show (R.toInt.toNat : Int) = R.toInt by omega, Int64.ofInt_toInt]
            have hR63 : R.toInt.toNat < 9223372036854775808 := by
              have := Int64.toInt_lt R
              omega
            have hrN : n.toNat = 0 ∨ R.toInt.toNat < sW (L l) 0 n.toNat 0 n.toNat n.toNat := by
              by_cases z : n.toNat = 0
              · exact Or.inl z
              · obtain ⟨x, x1, x2, x3⟩ := cnt_le ok hw z (by omega)
                right
                rw [x1, Int64.toInt_ofNat_of_lt x3] at c2
                omega
            have q1 := q1 l0 l1 s0 s1 hw n0 n1 hR0 c2
            have hU := v3.shp hT
            have fU : Fz mcf σ υ := w2.tr v3
            have mU := fU.ms (fun j => by omega) (fun j => by omega) m
            have nU := fU.mn (by omega) (fun j => by omega) (fun j => by omega) (fun j => by omega) hN
            simp only [hU, zrI, zrL, zrR, Shp_wI, Shp_wJ, zR_wI, zR_wJ, zJ_wI, zI_wJ, zobj_wI, zobj_wJ, zarr_wI, zarr_wJ, zS_wI, zS_wJ, o_192, a_193, a_194, a_195, a_196, a_197, a_198, a_199, a_200, a_201, a_202, a_203, a_204, a_205, a_206, a_207, a_208, a_209, a_210, r_192_0, r_192_1, r_192_2, r_192_3, r_192_4, r_192_5, r_192_7, r_192_8, r_192_14, r_192_16, r_192_17, r_192_18, r_192_19, r_192_20, r_192_22, r_192_23, r_192_25, r_192_26, zrI, zrL, zrR, ne_eq, true_and, and_true, true_or, or_true, not_true_eq_false, not_false_eq_true, false_and, and_false, forall_const, true_implies, false_implies, implies_true, reduceCtorEq, Int.reduceEq, Int.reduceNe, Int.reduceLT, Int.reduceLE, Int.reduceNeg, Nat.reduceEqDiff, if_true, if_false, reduceIte, Int.reduceMul, Int.reduceAdd, Int.reduceSub]
            refine t_mEmpty hU mU (by omega) (by omega) (fun ω z1 z2 => ?_)
            have main : ∀ (f : Nat) (i b o x r : Nat) (acc : List Int) (τ : ZM) (u2 u3 u11 u12 u13 u14 : PV), i + f = 400 → acc.length = i → i + x ≤ 400 → acc.sum + (x : Int) = n → 0 ≤ acc.sum → b ≤ 400 → o ≤ i → (i = 0 → b = x) → r < 9223372036854775808 → (x = 0 ∨ r < sW (L l) i b o x (topN i b x)) → MS τ (upS M 8 acc) → Fr mfr υ τ → (∀ σ', MS σ' (upS M 8 (acc ++ tlL (L l) f i b o x r)) → Fr mfr υ σ' → WP m_Mod_set 0 [zr 192, zi s] [] σ' (0, 0) (fun r1 σ2 => (zobj σ2 192 11 ∧ (zarr σ2 (zR σ2 192 2) 100 s ∧ Q (zi (zI σ2 (zR σ2 192 2) s)) σ2)))) → WP m_Mod_tell 82 [zr 192, zi l, u2, u3, zu, zi s, zl (Int64.ofNat r), zu, zi (x : Int), zi (o : Int), zi (b : Int), u11, u12, u13, u14] [] τ (0, 0) Q := by
              intro f
              induction f with
              | zero =>
                intro i b o x r acc τ u2 u3 u11 u12 u13 u14 hi hal hix hsum hs0 hb ho hb0 hr hrs mT fT q
                have hT' := fT.shp hU
                refine r_Mod_tell_82 ⟨fun _ => ⟨hT'.obj (by decide) (by decide) rfl, ?_⟩, fun c => by omega⟩
                exact q τ (by show MS τ (upS M 8 (acc ++ [])); rw [List.append_nil]; exact mT) fT
              | succ f ih =>
                intro i b o x r acc τ u2 u3 u11 u12 u13 u14 hi hal hix hsum hs0 hb ho hb0 hr hrs mT fT q
                have hT' := fT.shp hU
                have fz : Fz mfr' υ τ := fT.z (fun a j w => w)
                have mLT := fz.mlaw (fun j => by omega) v1.1
                have mRT := fz.mrd (fun a j w => by omega) v2
                have e8 : zI τ 195 8 = (i : Int) := by
                  have := (mT 8 (by omega) (by omega)).1
                  rw [upS_same, hal] at this
                  exact this
                by_cases hx0 : x = 0
                · refine r_Mod_tell_82 ⟨fun _ => ⟨hT'.obj (by decide) (by decide) rfl, ?_⟩, fun c => by omega⟩
                  exact q τ (by rw [hx0, tlL_done, List.append_nil]; exact mT) fT
                · have hrs' : r < sW (L l) i b o x (topN i b x) := by rcases hrs with e | e; exact absurd e hx0; exact e
                  have htop : topN i b x = min b x := by unfold topN; split <;> omega
                  obtain ⟨p1, p2, p3⟩ := pick_ok (W := WN (L l) i b o x) (topN i b x) r hrs'
                  have nx : ∀ (v r' : Nat) (u11 : PV) (w : Int64) (o' : Int), 1 ≤ v → r' < WN (L l) i b o x v → pick (WN (L l) i b o x) (topN i b x) r = (v, r') → r' < 9223372036854775808 → o' = ((hadN i b o v + 1 : Nat) : Int) → WP m_Mod_push 0 [zr 192, zi 8, zi (v : Int)] [] τ (0, 0) (fun r1 σ2 => ((-2147483648 ≤ ((x : Int) - (v : Int) : Int) ∧ ((x : Int) - (v : Int) : Int) ≤ 2147483647) ∧ WP m_Mod_tell 82 [zr 192, zi l, u2, u3, zu, zi s, zl (Int64.ofNat r'), zu, zi ((x : Int) - (v : Int)), zi o', zi (v : Int), u11, zi (v : Int), zl w, zu] [] σ2 (0, 0) Q)) := by
                    intro v r' u11 w o' hv1 hr' hpk hr63 ho'
                    obtain ⟨_, _, hvx⟩ := WN_law ok (show 0 < WN (L l) i b o x v by omega)
                    have hh : hadN i b o v ≤ o := by unfold hadN; split <;> omega
                    refine t_mPush' hT' mT (by omega) (by omega) (by omega) (fun σ2 y1 y2 => ⟨by omega, ?_⟩)
                    have hes : (acc ++ [(v : Int)]).sum = acc.sum + v := by simp
                    have := ih (i + 1) v (hadN i b o v + 1) (x - v) r' (acc ++ [(v : Int)]) σ2 u2 u3 u11 (zi (v : Int)) (zl w) zu (by omega) (by simp; omega) (by omega) (by omega) (by omega) (by omega) (by omega) (fun h => by omega) hr63 (by
                      by_cases c0 : x - v = 0
                      · exact Or.inl c0
                      · right
                        have := WN_next ok hw (i := i) (b := b) (o := o) (n := x) (v := v) hv1 (by omega)
                        have e : topN (i + 1) v (x - v) = min v (x - v) := by unfold topN; rw [if_neg (by omega)]
                        rw [e]
                        by_cases c1 : v ≤ x - v
                        · rw [Nat.min_eq_left c1]; omega
                        · rw [Nat.min_eq_right (by omega), ← sW_big (t := v) (by omega)]; omega) y1 (fT.tr y2) (fun σ' a1 a2 => q σ' (by
                        rw [tlL_step hx0, hpk]
                        rw [List.append_assoc] at a1
                        exact a1) a2)
                    rw [← ho', show ((x - v : Nat) : Int) = (x : Int) - (v : Int) by omega] at this
                    exact this
                  have loop : ∀ (v r' : Nat), v + 1 ≤ topN i b x → r' < sW (L l) i b o x (v + 1) → r' < 9223372036854775808 → pick (WN (L l) i b o x) (topN i b x) r = pick (WN (L l) i b o x) (v + 1) r' → WP m_Mod_tell 129 [zr 192, zi l, u2, u3, zu, zi s, zl (Int64.ofNat r'), zu, zi (x : Int), zi (o : Int), zi (b : Int), zi (i : Int), zi ((v + 1 : Nat) : Int), zl (Int64.ofNat (WN (L l) i b o x (v + 1))), zu] [] τ (0, 0) Q := by
                    intro v
                    induction v with
                    | zero =>
                      intro r' hv hr' hr63 hpk
                      have hW1 : r' < WN (L l) i b o x 1 := by
                        have h1 : sW (L l) i b o x 1 = 0 + WN (L l) i b o x 1 := rfl
                        have h2 : r' < sW (L l) i b o x 1 := hr'
                        rw [h1, Nat.zero_add] at h2
                        exact h2
                      have hsm := WN_small ok hw (i := i) (b := b) (o := o) (n := x) (v := 1) (by omega) (by omega)
                      have hpx : pick (WN (L l) i b o x) (topN i b x) r = (1, r') := by
                        rw [hpk]
                        show (if r' < WN (L l) i b o x (0 + 1) then (0 + 1, r') else _) = _
                        rw [if_pos hW1]
                      have hlt := (lt_63 hr63 hsm).mpr hW1
                      refine r_Mod_tell_129 ?_
                      simp only [hT', zrI, zrL, zrR, Shp_wI, Shp_wJ, zR_wI, zR_wJ, zJ_wI, zI_wJ, zobj_wI, zobj_wJ, zarr_wI, zarr_wJ, zS_wI, zS_wJ, o_192, a_193, a_194, a_195, a_196, a_197, a_198, a_199, a_200, a_201, a_202, a_203, a_204, a_205, a_206, a_207, a_208, a_209, a_210, r_192_0, r_192_1, r_192_2, r_192_3, r_192_4, r_192_5, r_192_7, r_192_8, r_192_14, r_192_16, r_192_17, r_192_18, r_192_19, r_192_20, r_192_22, r_192_23, r_192_25, r_192_26, zrI, zrL, zrR, ne_eq, true_and, and_true, true_or, or_true, not_true_eq_false, not_false_eq_true, false_and, and_false, forall_const, true_implies, false_implies, implies_true, reduceCtorEq, Int.reduceEq, Int.reduceNe, Int.reduceLT, Int.reduceLE, Int.reduceNeg, Nat.reduceEqDiff, if_true, if_false, reduceIte, Int.reduceMul, Int.reduceAdd, Int.reduceSub]
                      refine ⟨fun _ => ⟨fun c => nx 1 r' _ _ 1 (by omega) hW1 hpx hr63 ?_, fun c => ⟨fun c2 => nx 1 r' _ _ 1 (by omega) hW1 hpx hr63 ?_, fun c2 => ⟨by omega, nx 1 r' _ _ _ (by omega) hW1 hpx hr63 ?_⟩⟩⟩, fun c => ?_⟩
                      · unfold hadN; rw [if_neg (by omega)]; rfl
                      · unfold hadN; rw [if_neg (by omega)]; rfl
                      · unfold hadN; rw [if_pos (by omega)]; omega
                      · exact absurd c (by show ¬ 0 ≤ zlcmp (Int64.ofNat r') (Int64.ofNat (WN (L l) i b o x 1)); omega)
                    | succ v ihv =>
                      intro r' hv hr' hr63 hpk
                      have hsm := WN_small ok hw (i := i) (b := b) (o := o) (n := x) (v := v + 1 + 1) (by omega) (by omega)
                      refine r_Mod_tell_129 ?_
                      simp only [hT', zrI, zrL, zrR, Shp_wI, Shp_wJ, zR_wI, zR_wJ, zJ_wI, zI_wJ, zobj_wI, zobj_wJ, zarr_wI, zarr_wJ, zS_wI, zS_wJ, o_192, a_193, a_194, a_195, a_196, a_197, a_198, a_199, a_200, a_201, a_202, a_203, a_204, a_205, a_206, a_207, a_208, a_209, a_210, r_192_0, r_192_1, r_192_2, r_192_3, r_192_4, r_192_5, r_192_7, r_192_8, r_192_14, r_192_16, r_192_17, r_192_18, r_192_19, r_192_20, r_192_22, r_192_23, r_192_25, r_192_26, zrI, zrL, zrR, ne_eq, true_and, and_true, true_or, or_true, not_true_eq_false, not_false_eq_true, false_and, and_false, forall_const, true_implies, false_implies, implies_true, reduceCtorEq, Int.reduceEq, Int.reduceNe, Int.reduceLT, Int.reduceLE, Int.reduceNeg, Nat.reduceEqDiff, if_true, if_false, reduceIte, Int.reduceMul, Int.reduceAdd, Int.reduceSub]
                      refine ⟨fun hlt => ?_, fun c => ?_⟩
                      · have c := (lt_63 hr63 hsm).mp hlt
                        have hpx : pick (WN (L l) i b o x) (topN i b x) r = (v + 1 + 1, r') := by
                          rw [hpk]
                          show (if r' < WN (L l) i b o x (v + 1 + 1) then (v + 1 + 1, r') else _) = _
                          rw [if_pos c]
                        refine ⟨fun c0 => nx (v + 1 + 1) r' _ _ 1 (by omega) c hpx hr63 ?_, fun c0 => ⟨fun c2 => nx (v + 1 + 1) r' _ _ 1 (by omega) c hpx hr63 ?_, fun c2 => ⟨by omega, nx (v + 1 + 1) r' _ _ _ (by omega) c hpx hr63 ?_⟩⟩⟩
                        · unfold hadN; rw [if_neg (by omega)]; rfl
                        · unfold hadN; rw [if_neg (by omega)]; rfl
                        · unfold hadN; rw [if_pos (by omega)]; omega
                      · have c2 : ¬ r' < WN (L l) i b o x (v + 1 + 1) := fun w => by have := (lt_63 hr63 hsm).mpr w; omega
                        have es : sW (L l) i b o x (v + 1 + 1) = sW (L l) i b o x (v + 1) + WN (L l) i b o x (v + 1 + 1) := rfl
                        refine ⟨by omega, ?_⟩
                        rw [show ((v + 1 + 1 : Nat) : Int) + -1 = ((v + 1 : Nat) : Int) by omega]
                        refine t_mWays (i := i) (b := b) (o := o) (n := x) (v := v + 1) hT' mLT l0 l1 hw mRT (by omega) (by omega) (by omega) hb (by omega) (by omega) ?_
                        simp only [zrI, zrL, zrR, ne_eq, true_and, and_true, true_or, or_true, not_true_eq_false, not_false_eq_true, false_and, and_false, forall_const, true_implies, false_implies, implies_true, reduceCtorEq, Int.reduceEq, Int.reduceNe, Int.reduceLT, Int.reduceLE, Int.reduceNeg, Nat.reduceEqDiff, if_true, if_false, reduceIte, Int.reduceMul, Int.reduceAdd, Int.reduceSub]
                        rw [← Int64.ofNat_sub _ _ (by omega)]
                        refine ihv (r' - WN (L l) i b o x (v + 1 + 1)) (by omega) (by omega) (by omega) ?_
                        rw [hpk]
                        show (if r' < WN (L l) i b o x (v + 1 + 1) then (v + 1 + 1, r') else _) = _
                        rw [if_neg c2]
                  obtain ⟨y, hy⟩ : ∃ y, topN i b x = y + 1 := ⟨topN i b x - 1, by omega⟩
                  have go : ∀ z : Int, z = ((y + 1 : Nat) : Int) → WP m_Mod_ways 0 [zr 192, zi l, zi z, zi (i : Int), zi (b : Int), zi (o : Int), zi (x : Int), zu, zu, zu, zu] [] τ (0, 0) (fun r4 σ5 => zrL r4 (fun y6 => WP m_Mod_tell 129 [zr 192, zi l, u2, u3, zu, zi s, zl (Int64.ofNat r), zu, zi (x : Int), zi (o : Int), zi (b : Int), zi (i : Int), zi z, zl y6, zu] [] σ5 (0, 0) Q)) := fun z hz => by
                    rw [hz]
                    refine t_mWays (i := i) (b := b) (o := o) (n := x) (v := y + 1) hT' mLT l0 l1 hw mRT (by omega) (by omega) (by omega) hb (by omega) (by omega) ?_
                    rw [hy] at hrs'
                    exact loop y r (by omega) hrs' hr (by rw [hy])
                  refine r_Mod_tell_82 ?_
                  simp only [hT', e8, zrI, zrL, zrR, Shp_wI, Shp_wJ, zR_wI, zR_wJ, zJ_wI, zI_wJ, zobj_wI, zobj_wJ, zarr_wI, zarr_wJ, zS_wI, zS_wJ, o_192, a_193, a_194, a_195, a_196, a_197, a_198, a_199, a_200, a_201, a_202, a_203, a_204, a_205, a_206, a_207, a_208, a_209, a_210, r_192_0, r_192_1, r_192_2, r_192_3, r_192_4, r_192_5, r_192_7, r_192_8, r_192_14, r_192_16, r_192_17, r_192_18, r_192_19, r_192_20, r_192_22, r_192_23, r_192_25, r_192_26, zrI, zrL, zrR, ne_eq, true_and, and_true, true_or, or_true, not_true_eq_false, not_false_eq_true, false_and, and_false, forall_const, true_implies, false_implies, implies_true, reduceCtorEq, Int.reduceEq, Int.reduceNe, Int.reduceLT, Int.reduceLE, Int.reduceNeg, Nat.reduceEqDiff, if_true, if_false, reduceIte, Int.reduceMul, Int.reduceAdd, Int.reduceSub]
                  exact ⟨fun c => by omega, fun _ => ⟨fun c => go _ (by omega), fun c => go _ (by omega)⟩⟩
            have e0 : n = (n.toNat : Int) := by omega
            have := main 400 0 n.toNat 0 n.toNat R.toInt.toNat [] ω (zi n) (zl R) zu zu zu zu (by omega) rfl (by omega) (by simp; omega) (by simp) (by omega) (Nat.le_refl _) (fun _ => rfl) hR63 (by
              have e : topN 0 n.toNat n.toNat = n.toNat := by unfold topN; rw [if_pos rfl]
              rw [e]; exact hrN) z1 z2 (fun σ' a1 a2 => by
              have hZ := a2.shp hU
              have fz : Fz mfr' υ σ' := a2.z (fun a j w => w)
              rw [tlL_zero] at a1
              refine t_mSet (S := S) hZ (fz.mn (by omega) (fun j => by omega) (fun j => by omega) (fun j => by omega) nU) a1 (fun t t0 t1 => by unfold upS; rw [if_neg (by omega)]; exact hM t t0 t1) upS_same s0 s1 (fun κ b1 b2 => ?_)
              obtain ⟨hK, _, M', mK, hM'⟩ := id b1
              have gK := (mK s s0 (by omega)).1
              rw [hM' s s0 s1, upS_same] at gK
              simp only [hK, gK, zrI, zrL, zrR, Shp_wI, Shp_wJ, zR_wI, zR_wJ, zJ_wI, zI_wJ, zobj_wI, zobj_wJ, zarr_wI, zarr_wJ, zS_wI, zS_wJ, o_192, a_193, a_194, a_195, a_196, a_197, a_198, a_199, a_200, a_201, a_202, a_203, a_204, a_205, a_206, a_207, a_208, a_209, a_210, r_192_0, r_192_1, r_192_2, r_192_3, r_192_4, r_192_5, r_192_7, r_192_8, r_192_14, r_192_16, r_192_17, r_192_18, r_192_19, r_192_20, r_192_22, r_192_23, r_192_25, r_192_26, zrI, zrL, zrR, ne_eq, true_and, and_true, true_or, or_true, not_true_eq_false, not_false_eq_true, false_and, and_false, forall_const, true_implies, false_implies, implies_true, reduceCtorEq, Int.reduceEq, Int.reduceNe, Int.reduceLT, Int.reduceLE, Int.reduceNeg, Nat.reduceEqDiff, if_true, if_false, reduceIte, Int.reduceMul, Int.reduceAdd, Int.reduceSub]
              exact ⟨by omega, q1 κ b1 (b2.mco (fun a j w => by omega) (fz.mco (fun a j w => by omega) v1)) (((fU.mono (fun a j w => Or.inl w)).tr (fz.mono (fun a j w => by omega))).tr (b2.mono (fun a j w => Or.inr w)))⟩)
            rw [← e0, ← eR] at this
            exact this
          · have hge : (cntS (L l) n.toNat).toInt ≤ R.toInt := by
              rcases Int.lt_or_le R.toInt (cntS (L l) n.toNat).toInt with z | z
              · have := (zlcmp_lt (x := R) (y := cntS (L l) n.toNat)).mpr z
                omega
              · exact z
            exact q0 (by omega) τ w1 w2
      · simp only [zrI, zrL, zrR, ne_eq, true_and, and_true, true_or, or_true, not_true_eq_false, not_false_eq_true, false_and, and_false, forall_const, true_implies, false_implies, implies_true, reduceCtorEq, Int.reduceEq, Int.reduceNe, Int.reduceLT, Int.reduceLE, Int.reduceNeg, Nat.reduceEqDiff, if_true, if_false, reduceIte, Int.reduceMul, Int.reduceAdd, Int.reduceSub]
        exact q0 (by omega) σ mC Fz.rf
    · simp only [zrI, zrL, zrR, ne_eq, true_and, and_true, true_or, or_true, not_true_eq_false, not_false_eq_true, false_and, and_false, forall_const, true_implies, false_implies, implies_true, reduceCtorEq, Int.reduceEq, Int.reduceNe, Int.reduceLT, Int.reduceLE, Int.reduceNeg, Nat.reduceEqDiff, if_true, if_false, reduceIte, Int.reduceMul, Int.reduceAdd, Int.reduceSub]
      exact q0 (by omega) σ mC Fz.rf
  · simp only [zrI, zrL, zrR, ne_eq, true_and, and_true, true_or, or_true, not_true_eq_false, not_false_eq_true, false_and, and_false, forall_const, true_implies, false_implies, implies_true, reduceCtorEq, Int.reduceEq, Int.reduceNe, Int.reduceLT, Int.reduceLE, Int.reduceNeg, Nat.reduceEqDiff, if_true, if_false, reduceIte, Int.reduceMul, Int.reduceAdd, Int.reduceSub]
    exact q0 (by omega) σ mC Fz.rf
