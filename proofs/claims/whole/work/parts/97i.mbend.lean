/-! lead 3, reference: bend -/
abbrev mrtf (a : Nat) : Prop := (a = 204 ∨ a = 205) ∨ mfr a
theorem t_mBend {Q : ZQ} {σ : ZM} {M : Int → List Int} {s : Int} (hS : Shp σ) (m : MS σ M) (s0 : 0 ≤ s) (s1 : s ≤ 7) (hp : Pt (M s)) (ho : odL (M s)) (q : ∀ N : Int, Fst (fun n => 0 < bnF (M s) n) N → ∀ σ', MS σ' (upS M 8 (tbl (bnF (M s)) N.toNat)) → Fr mrtf σ σ' → Q zu σ') : WP m_Mod_bend 0 [zr 192, zi s, zu, zu, zu, zu, zu] [] σ (0, 0) Q := by
  have hlen := hp.len
  have h4 := hp.2.1
  have e8 : ∀ acc : List Int, upS M 8 acc s = M s := fun acc => by unfold upS; rw [if_neg (by omega)]
  have fin : Unit → ∀ (N : Nat) (u1 u4 u5 u6 : PV) (τ : ZM), (∀ n : Int, 0 ≤ n → n < (N : Int) → 0 < bnF (M s) n) → bnF (M s) (N : Int) ≤ 0 → MS τ (upS M 8 (tbl (bnF (M s)) N)) → Fr mrtf σ τ → ∀ x4 : Int, 0 ≤ x4 → x4 ≤ 400 → WP m_Mod_bend 241 [zr 192, u1, zi ((M s).length : Int), zi 0, zi x4, u5, u6] [] τ (0, 0) Q := fun _ N u1 u4 u5 u6 τ hn he mT f1 x4 y0 y1 => by
    refine r_Mod_bend_241 ⟨by omega, r_Mod_bend_128 ⟨fun _ => q (N : Int) ⟨by omega, hn, by show ¬ 0 < bnF (M s) (N : Int); omega⟩ τ (by rw [Int.toNat_natCast]; exact mT) f1, fun w => absurd rfl w⟩⟩
  have k128 : ∀ (e j : Nat) (u1 u5 u6 : PV) (τ : ZM), j + e = (M s).length → (∀ n : Int, 0 ≤ n → n < ((2 * j : Nat) : Int) → 0 < bnF (M s) n) → MS τ (upS M 8 (tbl (bnF (M s)) (2 * j))) → (∀ i : Int, 0 ≤ i → i ≤ 400 → zI τ 204 i = bnR (M s) i) → (∀ i : Int, 0 ≤ i → i ≤ 401 → zI τ 205 i = bnT (M s) i) → Fr mrtf σ τ → WP m_Mod_bend 128 [zr 192, u1, zi ((M s).length : Int), zi 1, zi (j : Int), u5, u6] [] τ (0, 0) Q := by
    intro e
    induction e with
    | zero =>
      intro j u1 u5 u6 τ hj hn mT hR hTl f1
      have hT := f1.shp hS
      have he := bnF_end (l := M s)
      refine r_Mod_bend_128 ?_
      simp only [hT, zrI, zrL, zrR, Shp_wI, Shp_wJ, zR_wI, zR_wJ, zJ_wI, zI_wJ, zobj_wI, zobj_wJ, zarr_wI, zarr_wJ, zS_wI, zS_wJ, o_192, a_193, a_194, a_195, a_196, a_197, a_198, a_199, a_200, a_201, a_202, a_203, a_204, a_205, a_206, a_207, a_208, a_209, a_210, r_192_0, r_192_1, r_192_2, r_192_3, r_192_4, r_192_5, r_192_7, r_192_8, r_192_14, r_192_16, r_192_17, r_192_18, r_192_19, r_192_20, r_192_22, r_192_23, r_192_25, r_192_26, zrI, zrL, zrR, ne_eq, true_and, and_true, true_or, or_true, not_true_eq_false, not_false_eq_true, false_and, and_false, forall_const, true_implies, false_implies, implies_true, reduceCtorEq, Int.reduceEq, Int.reduceNe, Int.reduceLT, Int.reduceLE, Int.reduceNeg, Nat.reduceEqDiff, if_true, if_false, reduceIte, Int.reduceMul, Int.reduceAdd, Int.reduceSub]
      refine ⟨fun _ => fin () (2 * j) u1 zu (zi 0) u6 τ hn ?_ mT f1 _ (by omega) (by omega), fun w => by omega⟩
      rw [show ((2 * j : Nat) : Int) = 2 * ((M s).length : Int) by omega]
      omega
    | succ e ih =>
      intro j u1 u5 u6 τ hj hn mT hR hTl f1
      have hT := f1.shp hS
      have v1 := hR (j : Int) (by omega) (by omega)
      have v2 := hTl (j : Int) (by omega) (by omega)
      have hRb := bnR_bd hp (j : Int)
      have t1 : 0 ≤ bnT (M s) (j : Int) ∧ bnT (M s) (j : Int) ≤ ((M s).length : Int) := bnTp_bd (M s).length
      have t2 : 0 ≤ bnT (M s) ((j : Int) + 1) ∧ bnT (M s) ((j : Int) + 1) ≤ ((M s).length : Int) := bnTp_bd (M s).length
      have be := bnF_e (l := M s) (j := (j : Int))
      have bo := bnF_o (l := M s) (j := (j : Int))
      refine r_Mod_bend_128 ?_
      simp only [hT, v1, v2, zrI, zrL, zrR, Shp_wI, Shp_wJ, zR_wI, zR_wJ, zJ_wI, zI_wJ, zobj_wI, zobj_wJ, zarr_wI, zarr_wJ, zS_wI, zS_wJ, o_192, a_193, a_194, a_195, a_196, a_197, a_198, a_199, a_200, a_201, a_202, a_203, a_204, a_205, a_206, a_207, a_208, a_209, a_210, r_192_0, r_192_1, r_192_2, r_192_3, r_192_4, r_192_5, r_192_7, r_192_8, r_192_14, r_192_16, r_192_17, r_192_18, r_192_19, r_192_20, r_192_22, r_192_23, r_192_25, r_192_26, zrI, zrL, zrR, ne_eq, true_and, and_true, true_or, or_true, not_true_eq_false, not_false_eq_true, false_and, and_false, forall_const, true_implies, false_implies, implies_true, reduceCtorEq, Int.reduceEq, Int.reduceNe, Int.reduceLT, Int.reduceLE, Int.reduceNeg, Nat.reduceEqDiff, if_true, if_false, reduceIte, Int.reduceMul, Int.reduceAdd, Int.reduceSub]
      rw [show bnR (M s) (j : Int) - (j : Int) + bnT (M s) (j : Int) - (j : Int) = bnF (M s) (2 * (j : Int)) by omega]
      refine ⟨fun w => by omega, fun _ => ⟨by omega, by omega, by omega, by omega, by omega, fun w => fin () (2 * j) u1 zu (zi (bnF (M s) (2 * (j : Int)))) u6 τ hn (by rw [show ((2 * j : Nat) : Int) = 2 * (j : Int) by omega]; exact w) mT f1 _ (by omega) (by omega), fun w => ?_⟩⟩
      have hn1 : ∀ n : Int, 0 ≤ n → n < ((2 * j + 1 : Nat) : Int) → 0 < bnF (M s) n := fun n n0 n1 => by
        by_cases c : n = 2 * (j : Int)
        · rw [c]; exact w
        · exact hn n n0 (by omega)
      obtain ⟨r1, r2, r3⟩ := Pt.room (f := bnF (M s)) (n := 2 * j + 1) (j := 2 * j) (bn_Pt hp ho hn1) (by omega)
      refine t_mPush' hT mT (by omega) (by omega) r1 (fun υ j1 j2 => ?_)
      have hU := j2.shp hT
      have f2 : Fr mrtf σ υ := f1.tr (j2.mono (fun a w => Or.inr w))
      have j1' : MS υ (upS M 8 (tbl (bnF (M s)) (2 * j + 1))) := by
        rw [tbl_snoc, show ((2 * j : Nat) : Int) = 2 * (j : Int) by omega]
        exact j1
      have v3 : zI υ 204 (j : Int) = bnR (M s) (j : Int) := by rw [(j2.2.2.2 204 (by omega)).1]; exact v1
      have v4 : zI υ 205 ((j : Int) + 1) = bnT (M s) ((j : Int) + 1) := by rw [(j2.2.2.2 205 (by omega)).1]; exact hTl ((j : Int) + 1) (by omega) (by omega)
      simp only [hU, v3, v4, zrI, zrL, zrR, Shp_wI, Shp_wJ, zR_wI, zR_wJ, zJ_wI, zI_wJ, zobj_wI, zobj_wJ, zarr_wI, zarr_wJ, zS_wI, zS_wJ, o_192, a_193, a_194, a_195, a_196, a_197, a_198, a_199, a_200, a_201, a_202, a_203, a_204, a_205, a_206, a_207, a_208, a_209, a_210, r_192_0, r_192_1, r_192_2, r_192_3, r_192_4, r_192_5, r_192_7, r_192_8, r_192_14, r_192_16, r_192_17, r_192_18, r_192_19, r_192_20, r_192_22, r_192_23, r_192_25, r_192_26, zrI, zrL, zrR, ne_eq, true_and, and_true, true_or, or_true, not_true_eq_false, not_false_eq_true, false_and, and_false, forall_const, true_implies, false_implies, implies_true, reduceCtorEq, Int.reduceEq, Int.reduceNe, Int.reduceLT, Int.reduceLE, Int.reduceNeg, Nat.reduceEqDiff, if_true, if_false, reduceIte, Int.reduceMul, Int.reduceAdd, Int.reduceSub]
      rw [show bnR (M s) (j : Int) - (j : Int) + bnT (M s) ((j : Int) + 1) - (j : Int) - 1 = bnF (M s) (2 * (j : Int) + 1) by omega]
      refine ⟨by omega, by omega, by omega, by omega, by omega, by omega, by omega, fun w2 => fin () (2 * j + 1) u1 zu (zi (bnF (M s) (2 * (j : Int)))) _ υ hn1 (by rw [show ((2 * j + 1 : Nat) : Int) = 2 * (j : Int) + 1 by omega]; exact w2) j1' f2 _ (by omega) (by omega), fun w2 => ?_⟩
      have hn2 : ∀ n : Int, 0 ≤ n → n < ((2 * j + 1 + 1 : Nat) : Int) → 0 < bnF (M s) n := fun n n0 n1 => by
        by_cases c : n = 2 * (j : Int) + 1
        · rw [c]; exact w2
        · exact hn1 n n0 (by omega)
      obtain ⟨y1, y2, y3⟩ := Pt.room (f := bnF (M s)) (n := 2 * j + 1 + 1) (j := 2 * j + 1) (bn_Pt hp ho hn2) (by omega)
      refine t_mPush' hU j1' (by omega) (by omega) y1 (fun ξ k1 k2 => r_Mod_bend_241 ⟨by omega, ?_⟩)
      have := ih (j + 1) u1 (zi (bnF (M s) (2 * (j : Int)))) (zi (bnF (M s) (2 * (j : Int) + 1))) ξ (by omega) (by rw [show 2 * (j + 1) = 2 * j + 1 + 1 by omega]; exact hn2) (by
        rw [show 2 * (j + 1) = 2 * j + 1 + 1 by omega, tbl_snoc, show ((2 * j + 1 : Nat) : Int) = 2 * (j : Int) + 1 by omega]
        exact k1) (fun i i0 i1 => by rw [(k2.2.2.2 204 (by omega)).1, (j2.2.2.2 204 (by omega)).1]; exact hR i i0 i1) (fun i i0 i1 => by rw [(k2.2.2.2 205 (by omega)).1, (j2.2.2.2 205 (by omega)).1]; exact hTl i i0 i1) (f2.tr (k2.mono (fun a w => Or.inr w)))
      rw [Int.natCast_succ] at this
      exact this
  have k49 : ∀ (e j : Nat) (u1 u4 u5 u6 : PV) (τ : ZM), j + e = 402 → (∀ i : Int, 0 ≤ i → i ≤ 400 → zI τ 204 i = bnR (M s) i) → (∀ i : Int, 0 ≤ i → i < (j : Int) → zI τ 205 i = bnT (M s) i) → Fr (fun a => a = 204 ∨ a = 205) σ τ → WP m_Mod_bend 49 [zr 192, u1, zi ((M s).length : Int), zi (j : Int), u4, u5, u6] [] τ (0, 0) Q := by
    intro e
    induction e with
    | zero =>
      intro j u1 u4 u5 u6 τ hj hR hTl f1
      have hT := f1.shp hS
      have mT := f1.ms (by omega) (by omega) m
      refine r_Mod_bend_49 ?_
      simp only [hT, zrI, zrL, zrR, Shp_wI, Shp_wJ, zR_wI, zR_wJ, zJ_wI, zI_wJ, zobj_wI, zobj_wJ, zarr_wI, zarr_wJ, zS_wI, zS_wJ, o_192, a_193, a_194, a_195, a_196, a_197, a_198, a_199, a_200, a_201, a_202, a_203, a_204, a_205, a_206, a_207, a_208, a_209, a_210, r_192_0, r_192_1, r_192_2, r_192_3, r_192_4, r_192_5, r_192_7, r_192_8, r_192_14, r_192_16, r_192_17, r_192_18, r_192_19, r_192_20, r_192_22, r_192_23, r_192_25, r_192_26, zrI, zrL, zrR, ne_eq, true_and, and_true, true_or, or_true, not_true_eq_false, not_false_eq_true, false_and, and_false, forall_const, true_implies, false_implies, implies_true, reduceCtorEq, Int.reduceEq, Int.reduceNe, Int.reduceLT, Int.reduceLE, Int.reduceNeg, Nat.reduceEqDiff, if_true, if_false, reduceIte, Int.reduceMul, Int.reduceAdd, Int.reduceSub]
      refine ⟨fun _ => t_mEmpty hT mT (by omega) (by omega) (fun υ w1 w2 => ?_), fun w => by omega⟩
      have f2 : Fr mrtf σ υ := (f1.mono (fun a w => Or.inl w)).tr (w2.mono (fun a w => Or.inr w))
      refine ⟨fun c => r_Mod_bend_128 ⟨fun _ => ?_, fun w => absurd rfl w⟩, fun c => k128 (M s).length 0 _ _ _ υ (by omega) (fun n n0 n1 => by omega) w1 (fun i i0 i1 => by rw [(w2.2.2.2 204 (by omega)).1]; exact hR i i0 i1) (fun i i0 i1 => by rw [(w2.2.2.2 205 (by omega)).1]; exact hTl i i0 (by omega)) f2⟩
      have he := bnF_end (l := M s)
      rw [show (2 : Int) * ((M s).length : Int) = 0 by omega] at he
      exact q 0 ⟨by omega, fun i i0 i1 => by omega, by show ¬ 0 < bnF (M s) 0; omega⟩ υ w1 f2
    | succ e ih =>
      intro j u1 u4 u5 u6 τ hj hR hTl f1
      have hT := f1.shp hS
      have k66 : ∀ (g n : Nat) (υ : ZM), n + g = (M s).length → (∀ i : Int, 0 ≤ i → i ≤ 400 → zI υ 204 i = bnR (M s) i) → (∀ i : Int, 0 ≤ i → i < (j : Int) → zI υ 205 i = bnT (M s) i) → zI υ 205 (j : Int) = bnTp (M s) (j : Int) n → Fr (fun a => a = 204 ∨ a = 205) σ υ → WP m_Mod_bend 66 [zr 192, u1, zi ((M s).length : Int), zi (j : Int), zi (n : Int), u5, u6] [] υ (0, 0) Q := by
        intro g
        induction g with
        | zero =>
          intro n υ hn hR hTl hj f1
          rw [show n = (M s).length by omega] at hj
          have := ih (j + 1) u1 (zi (n : Int)) u5 u6 υ (by omega) hR (fun i i0 i1 => by
            by_cases c : i = (j : Int)
            · rw [c]; exact hj
            · exact hTl i i0 (by omega)) f1
          rw [Int.natCast_succ] at this
          exact r_Mod_bend_66 ⟨fun _ => ⟨by omega, this⟩, fun w => by omega⟩
        | succ g ihg =>
          intro n υ hn hR hTl hj f1
          have hU := f1.shp hS
          have v1 := hR (n : Int) (by omega) (by omega)
          have hRn : bnR (M s) (n : Int) = ga (M s) (n : Int) / 2 := by unfold bnR; rw [if_pos (by omega)]
          have hb := bnTp_bd (l := M s) (j := (j : Int)) n
          have step : ∀ w : Int, bnTp (M s) (j : Int) (n + 1) = w → WP m_Mod_bend 66 [zr 192, u1, zi ((M s).length : Int), zi (j : Int), zi ((n : Int) + 1), u5, u6] [] (wI υ 205 (j : Int) w) (0, 0) Q := fun w hw => by
            have := ihg (n + 1) (wI υ 205 (j : Int) w) (by omega) (fun i i0 i1 => by rw [zI_wI, if_neg (by omega)]; exact hR i i0 i1) (fun i i0 i1 => by rw [zI_wI, if_neg (by omega)]; exact hTl i i0 i1) (by rw [zI_wI, if_pos ⟨rfl, rfl⟩]; exact hw.symm) (f1.tr (Fr.wI (Or.inr rfl)))
            rw [Int.natCast_succ] at this
            exact this
          have ep : bnTp (M s) (j : Int) (n + 1) = bnTp (M s) (j : Int) n + (if (j : Int) ≤ ga (M s) (n : Int) / 2 then 1 else 0) := rfl
          refine r_Mod_bend_66 ?_
          simp only [hU, v1, hj, zrI, zrL, zrR, Shp_wI, Shp_wJ, zR_wI, zR_wJ, zJ_wI, zI_wJ, zobj_wI, zobj_wJ, zarr_wI, zarr_wJ, zS_wI, zS_wJ, o_192, a_193, a_194, a_195, a_196, a_197, a_198, a_199, a_200, a_201, a_202, a_203, a_204, a_205, a_206, a_207, a_208, a_209, a_210, r_192_0, r_192_1, r_192_2, r_192_3, r_192_4, r_192_5, r_192_7, r_192_8, r_192_14, r_192_16, r_192_17, r_192_18, r_192_19, r_192_20, r_192_22, r_192_23, r_192_25, r_192_26, zrI, zrL, zrR, ne_eq, true_and, and_true, true_or, or_true, not_true_eq_false, not_false_eq_true, false_and, and_false, forall_const, true_implies, false_implies, implies_true, reduceCtorEq, Int.reduceEq, Int.reduceNe, Int.reduceLT, Int.reduceLE, Int.reduceNeg, Nat.reduceEqDiff, if_true, if_false, reduceIte, Int.reduceMul, Int.reduceAdd, Int.reduceSub]
          refine ⟨fun w => by omega, fun _ => ⟨by omega, by omega, fun c => ⟨by omega, by omega, by omega, step _ ?_⟩, fun c => ⟨by omega, by omega, by omega, step _ ?_⟩⟩⟩
          · rw [ep, if_neg (by omega)]
          · rw [ep, if_pos (by omega)]
      refine r_Mod_bend_49 ?_
      simp only [hT, zrI, zrL, zrR, Shp_wI, Shp_wJ, zR_wI, zR_wJ, zJ_wI, zI_wJ, zobj_wI, zobj_wJ, zarr_wI, zarr_wJ, zS_wI, zS_wJ, o_192, a_193, a_194, a_195, a_196, a_197, a_198, a_199, a_200, a_201, a_202, a_203, a_204, a_205, a_206, a_207, a_208, a_209, a_210, r_192_0, r_192_1, r_192_2, r_192_3, r_192_4, r_192_5, r_192_7, r_192_8, r_192_14, r_192_16, r_192_17, r_192_18, r_192_19, r_192_20, r_192_22, r_192_23, r_192_25, r_192_26, zrI, zrL, zrR, ne_eq, true_and, and_true, true_or, or_true, not_true_eq_false, not_false_eq_true, false_and, and_false, forall_const, true_implies, false_implies, implies_true, reduceCtorEq, Int.reduceEq, Int.reduceNe, Int.reduceLT, Int.reduceLE, Int.reduceNeg, Nat.reduceEqDiff, if_true, if_false, reduceIte, Int.reduceMul, Int.reduceAdd, Int.reduceSub]
      refine ⟨fun w => by omega, fun _ => ⟨by omega, ?_⟩⟩
      exact k66 (M s).length 0 _ (by omega) (fun i i0 i1 => by rw [zI_wI, if_neg (by omega)]; exact hR i i0 i1) (fun i i0 i1 => by rw [zI_wI, if_neg (by omega)]; exact hTl i i0 i1) (by rw [zI_wI, if_pos ⟨rfl, rfl⟩]; rfl) (f1.tr (Fr.wI (Or.inr rfl)))
  have k9 : ∀ (e j : Nat) (u4 u5 u6 : PV) (τ : ZM), j + e = 401 → (∀ i : Int, 0 ≤ i → i < (j : Int) → zI τ 204 i = bnR (M s) i) → Fr (fun a => a = 204 ∨ a = 205) σ τ → WP m_Mod_bend 9 [zr 192, zi s, zi ((M s).length : Int), zi (j : Int), u4, u5, u6] [] τ (0, 0) Q := by
    intro e
    induction e with
    | zero =>
      intro j u4 u5 u6 τ hj hR f1
      exact r_Mod_bend_9 ⟨fun _ => k49 402 0 _ _ _ _ τ (by omega) (fun i i0 i1 => hR i i0 (by omega)) (fun i i0 i1 => by omega) f1, fun w => by omega⟩
    | succ e ih =>
      intro j u4 u5 u6 τ hj hR f1
      have hT := f1.shp hS
      have mT := f1.ms (by omega) (by omega) m
      have step : ∀ w : Int, bnR (M s) (j : Int) = w → WP m_Mod_bend 9 [zr 192, zi s, zi ((M s).length : Int), zi ((j : Int) + 1), u4, u5, u6] [] (wI τ 204 (j : Int) w) (0, 0) Q := fun w hw => by
        have := ih (j + 1) u4 u5 u6 (wI τ 204 (j : Int) w) (by omega) (fun i i0 i1 => by
          rw [zI_wI]
          by_cases c : i = (j : Int)
          · rw [if_pos ⟨rfl, c⟩, c]; exact hw.symm
          · rw [if_neg (by omega)]; exact hR i i0 (by omega)) (f1.tr (Fr.wI (Or.inl rfl)))
        rw [Int.natCast_succ] at this
        exact this
      refine r_Mod_bend_9 ?_
      simp only [hT, zrI, zrL, zrR, Shp_wI, Shp_wJ, zR_wI, zR_wJ, zJ_wI, zI_wJ, zobj_wI, zobj_wJ, zarr_wI, zarr_wJ, zS_wI, zS_wJ, o_192, a_193, a_194, a_195, a_196, a_197, a_198, a_199, a_200, a_201, a_202, a_203, a_204, a_205, a_206, a_207, a_208, a_209, a_210, r_192_0, r_192_1, r_192_2, r_192_3, r_192_4, r_192_5, r_192_7, r_192_8, r_192_14, r_192_16, r_192_17, r_192_18, r_192_19, r_192_20, r_192_22, r_192_23, r_192_25, r_192_26, zrI, zrL, zrR, ne_eq, true_and, and_true, true_or, or_true, not_true_eq_false, not_false_eq_true, false_and, and_false, forall_const, true_implies, false_implies, implies_true, reduceCtorEq, Int.reduceEq, Int.reduceNe, Int.reduceLT, Int.reduceLE, Int.reduceNeg, Nat.reduceEqDiff, if_true, if_false, reduceIte, Int.reduceMul, Int.reduceAdd, Int.reduceSub]
      refine ⟨fun w => by omega, fun _ => ⟨fun c => ⟨by omega, by omega, step _ ?_⟩, fun c => t_mAt hT mT s0 (by omega) (by omega) ?_⟩⟩
      · unfold bnR
        rw [if_neg (by omega)]
      · have hr := hp.rng (j : Int)
        have hps := hp.pos (i := (j : Int)) (by omega) (by omega)
        have hod := ho (j : Int) (by omega) (by omega)
        have e2 : Int.tdiv (ga (M s) (j : Int) - 1) 2 = (ga (M s) (j : Int) - 1) / 2 := Int.tdiv_eq_ediv_of_nonneg (by omega)
        simp only [hT, e2, zrI, zrL, zrR, Shp_wI, Shp_wJ, zR_wI, zR_wJ, zJ_wI, zI_wJ, zobj_wI, zobj_wJ, zarr_wI, zarr_wJ, zS_wI, zS_wJ, o_192, a_193, a_194, a_195, a_196, a_197, a_198, a_199, a_200, a_201, a_202, a_203, a_204, a_205, a_206, a_207, a_208, a_209, a_210, r_192_0, r_192_1, r_192_2, r_192_3, r_192_4, r_192_5, r_192_7, r_192_8, r_192_14, r_192_16, r_192_17, r_192_18, r_192_19, r_192_20, r_192_22, r_192_23, r_192_25, r_192_26, zrI, zrL, zrR, ne_eq, true_and, and_true, true_or, or_true, not_true_eq_false, not_false_eq_true, false_and, and_false, forall_const, true_implies, false_implies, implies_true, reduceCtorEq, Int.reduceEq, Int.reduceNe, Int.reduceLT, Int.reduceLE, Int.reduceNeg, Nat.reduceEqDiff, if_true, if_false, reduceIte, Int.reduceMul, Int.reduceAdd, Int.reduceSub]
        refine ⟨by omega, by omega, by omega, by omega, step _ ?_⟩
        unfold bnR
        rw [if_pos (by omega)]
        omega
  have g1 := (m s s0 (by omega)).1
  refine r_Mod_bend_0 ?_
  simp only [hS, g1, zrI, zrL, zrR, Shp_wI, Shp_wJ, zR_wI, zR_wJ, zJ_wI, zI_wJ, zobj_wI, zobj_wJ, zarr_wI, zarr_wJ, zS_wI, zS_wJ, o_192, a_193, a_194, a_195, a_196, a_197, a_198, a_199, a_200, a_201, a_202, a_203, a_204, a_205, a_206, a_207, a_208, a_209, a_210, r_192_0, r_192_1, r_192_2, r_192_3, r_192_4, r_192_5, r_192_7, r_192_8, r_192_14, r_192_16, r_192_17, r_192_18, r_192_19, r_192_20, r_192_22, r_192_23, r_192_25, r_192_26, zrI, zrL, zrR, ne_eq, true_and, and_true, true_or, or_true, not_true_eq_false, not_false_eq_true, false_and, and_false, forall_const, true_implies, false_implies, implies_true, reduceCtorEq, Int.reduceEq, Int.reduceNe, Int.reduceLT, Int.reduceLE, Int.reduceNeg, Nat.reduceEqDiff, if_true, if_false, reduceIte, Int.reduceMul, Int.reduceAdd, Int.reduceSub]
  exact ⟨by omega, k9 401 0 _ _ _ σ (by omega) (fun i i0 i1 => by omega) Fr.rf⟩
