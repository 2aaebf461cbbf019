/-! makeOwn, countOf, count, counts, of the reference -/
abbrev owf (a : Nat) (_ : Int) : Prop := a = 202
theorem t_mo52 {Q : ZQ} {σ0 : ZM} {v : Nat} {s : SQ} (v1 : 1 ≤ v) (v4 : v ≤ 400) (u4 u5 : PV) (q : ∀ σ' u1 u3, RV0 σ' 202 (plusX v s) → Fz owf σ0 σ' → WP m_Mod_makeOwn 41 [zr 192, u1, zi ((v : Int) + 2), u3, u4, u5] [] σ' (0, 0) Q) :
    ∀ (g : Nat) (p : Int) (τ : ZM) (u1 : PV), p + 1 = (v : Int) + g → p ≤ 400 → Shp τ → (∀ n : Nat, n ≤ 400 → zJ τ 202 (n : Int) = if (n : Int) ≤ p then s n else plusX v s n) → Fz owf σ0 τ → WP m_Mod_makeOwn 52 [zr 192, u1, zi (v : Int), zi p, u4, u5] [] τ (0, 0) Q := by
  intro g
  induction g with
  | zero =>
    intro p τ u1 hp p4 hS hv f
    refine r_Mod_makeOwn_52 ⟨fun _ => ⟨by omega, q τ _ _ (fun n hn => ?_) f⟩, fun c => by omega⟩
    rw [hv n hn]
    split
    · unfold plusX shS
      rw [if_neg (by omega), Int64.add_zero]
    · rfl
  | succ g ih =>
    intro p τ u1 hp p4 hS hv f
    obtain ⟨n, rfl⟩ := Int.eq_ofNat_of_zero_le (show 0 ≤ p by omega)
    refine r_Mod_makeOwn_52 ?_
    simp only [hS, zrI, zrL, zrR, Shp_wI, Shp_wJ, zR_wI, zR_wJ, zJ_wI, zI_wJ, zobj_wI, zobj_wJ, zarr_wI, zarr_wJ, zS_wI, zS_wJ, o_192, a_193, a_194, a_195, a_196, a_197, a_198, a_199, a_200, a_201, a_202, a_203, a_204, a_205, a_206, a_207, a_208, a_209, a_210, r_192_0, r_192_1, r_192_2, r_192_3, r_192_4, r_192_5, r_192_7, r_192_8, r_192_14, r_192_16, r_192_17, r_192_18, r_192_19, r_192_20, r_192_22, r_192_23, r_192_25, r_192_26, zrI, zrL, zrR, ne_eq, true_and, and_true, true_or, or_true, not_true_eq_false, not_false_eq_true, false_and, and_false, forall_const, true_implies, false_implies, implies_true, reduceCtorEq, Int.reduceEq, Int.reduceNe, Int.reduceLT, Int.reduceLE, Int.reduceNeg, Nat.reduceEqDiff, if_true, if_false, reduceIte, Int.reduceMul, Int.reduceAdd, Int.reduceSub]
    refine ⟨fun c => by omega, fun _ => ⟨by omega, by omega, by omega, by omega, by omega, ?_⟩⟩
    refine ih ((n : Int) + -1) _ u1 (by omega) (by omega) hS (fun j hj => ?_) (f.tr (Fz.wJ rfl))
    rw [zJ_wJ]
    by_cases c : j = n
    · have e1 := hv n (by omega)
      rw [if_pos (by omega)] at e1
      have e2 := hv (n - v) (by omega)
      rw [if_pos (by omega), show ((n - v : Nat) : Int) = (n : Int) - (v : Int) by omega] at e2
      rw [if_pos ⟨rfl, by omega⟩, if_neg (by omega), e1, e2, c]
      unfold plusX shS
      rw [if_pos (by omega)]
    · rw [if_neg (by omega), hv j hj]
      by_cases c2 : (j : Int) ≤ (n : Int)
      · rw [if_pos c2, if_pos (by omega)]
      · rw [if_neg c2, if_neg (by omega)]
theorem t_mo168 {Q : ZQ} {σ0 : ZM} {v : Nat} {t i : Int} {s : SQ} (v1 : 1 ≤ v) (v4 : v ≤ 400) (i0 : 0 ≤ i) (i1 : i ≤ 100) (u1 : PV) (q : ∀ σ' u5, RV0 σ' 202 (mulX v s) → Fz owf σ0 σ' → WP m_Mod_makeOwn 157 [zr 192, u1, zi t, zi (v : Int), zi (i + 1), u5] [] σ' (0, 0) Q) :
    ∀ (g : Nat) (p : Int) (τ : ZM), p + 1 = (v : Int) + g → p ≤ 400 → Shp τ → (∀ n : Nat, n ≤ 400 → zJ τ 202 (n : Int) = if (n : Int) ≤ p then s n else mulX v s n) → Fz owf σ0 τ → WP m_Mod_makeOwn 168 [zr 192, u1, zi t, zi (v : Int), zi i, zi p] [] τ (0, 0) Q := by
  intro g
  induction g with
  | zero =>
    intro p τ hp p4 hS hv f
    refine r_Mod_makeOwn_168 ⟨fun _ => ⟨by omega, q τ _ (fun n hn => ?_) f⟩, fun c => by omega⟩
    rw [hv n hn]
    split
    · unfold mulX shS
      rw [if_neg (by omega), Int64.sub_zero]
    · rfl
  | succ g ih =>
    intro p τ hp p4 hS hv f
    obtain ⟨n, rfl⟩ := Int.eq_ofNat_of_zero_le (show 0 ≤ p by omega)
    refine r_Mod_makeOwn_168 ?_
    simp only [hS, zrI, zrL, zrR, Shp_wI, Shp_wJ, zR_wI, zR_wJ, zJ_wI, zI_wJ, zobj_wI, zobj_wJ, zarr_wI, zarr_wJ, zS_wI, zS_wJ, o_192, a_193, a_194, a_195, a_196, a_197, a_198, a_199, a_200, a_201, a_202, a_203, a_204, a_205, a_206, a_207, a_208, a_209, a_210, r_192_0, r_192_1, r_192_2, r_192_3, r_192_4, r_192_5, r_192_7, r_192_8, r_192_14, r_192_16, r_192_17, r_192_18, r_192_19, r_192_20, r_192_22, r_192_23, r_192_25, r_192_26, zrI, zrL, zrR, ne_eq, true_and, and_true, true_or, or_true, not_true_eq_false, not_false_eq_true, false_and, and_false, forall_const, true_implies, false_implies, implies_true, reduceCtorEq, Int.reduceEq, Int.reduceNe, Int.reduceLT, Int.reduceLE, Int.reduceNeg, Nat.reduceEqDiff, if_true, if_false, reduceIte, Int.reduceMul, Int.reduceAdd, Int.reduceSub]
    refine ⟨fun c => by omega, fun _ => ⟨by omega, by omega, by omega, by omega, by omega, ?_⟩⟩
    refine ih ((n : Int) + -1) _ (by omega) (by omega) hS (fun j hj => ?_) (f.tr (Fz.wJ rfl))
    rw [zJ_wJ]
    by_cases c : j = n
    · have e1 := hv n (by omega)
      rw [if_pos (by omega)] at e1
      have e2 := hv (n - v) (by omega)
      rw [if_pos (by omega), show ((n - v : Nat) : Int) = (n : Int) - (v : Int) by omega] at e2
      rw [if_pos ⟨rfl, by omega⟩, if_neg (by omega), e1, e2, c]
      unfold mulX shS
      rw [if_pos (by omega)]
    · rw [if_neg (by omega), hv j hj]
      by_cases c2 : (j : Int) ≤ (n : Int)
      · rw [if_pos c2, if_pos (by omega)]
      · rw [if_neg c2, if_neg (by omega)]
theorem t_mo106 {Q : ZQ} {σ0 : ZM} {v : Nat} {t : Int} {s : SQ} (v1 : 1 ≤ v) (v4 : v ≤ 400) (u1 u5 : PV) (q : ∀ σ' u4, RV0 σ' 202 (divX v s) → Fz owf σ0 σ' → WP m_Mod_makeOwn 96 [zr 192, u1, zi t, zi ((v : Int) + 1), u4, u5] [] σ' (0, 0) Q) :
    ∀ (g p : Nat) (τ : ZM), p + g = 401 → v ≤ p → Shp τ → (∀ n : Nat, n ≤ 400 → zJ τ 202 (n : Int) = if n < p then divX v s n else s n) → Fz owf σ0 τ → WP m_Mod_makeOwn 106 [zr 192, u1, zi t, zi (v : Int), zi (p : Int), u5] [] τ (0, 0) Q := by
  intro g
  induction g with
  | zero =>
    intro p τ hp p4 hS hv f
    refine r_Mod_makeOwn_106 ⟨fun _ => ⟨by omega, q τ _ (fun n hn => ?_) f⟩, fun c => by omega⟩
    rw [hv n hn, if_pos (by omega)]
  | succ g ih =>
    intro p τ hp p4 hS hv f
    refine r_Mod_makeOwn_106 ?_
    simp only [hS, zrI, zrL, zrR, Shp_wI, Shp_wJ, zR_wI, zR_wJ, zJ_wI, zI_wJ, zobj_wI, zobj_wJ, zarr_wI, zarr_wJ, zS_wI, zS_wJ, o_192, a_193, a_194, a_195, a_196, a_197, a_198, a_199, a_200, a_201, a_202, a_203, a_204, a_205, a_206, a_207, a_208, a_209, a_210, r_192_0, r_192_1, r_192_2, r_192_3, r_192_4, r_192_5, r_192_7, r_192_8, r_192_14, r_192_16, r_192_17, r_192_18, r_192_19, r_192_20, r_192_22, r_192_23, r_192_25, r_192_26, zrI, zrL, zrR, ne_eq, true_and, and_true, true_or, or_true, not_true_eq_false, not_false_eq_true, false_and, and_false, forall_const, true_implies, false_implies, implies_true, reduceCtorEq, Int.reduceEq, Int.reduceNe, Int.reduceLT, Int.reduceLE, Int.reduceNeg, Nat.reduceEqDiff, if_true, if_false, reduceIte, Int.reduceMul, Int.reduceAdd, Int.reduceSub]
    refine ⟨fun c => by omega, fun _ => ⟨by omega, by omega, by omega, by omega, by omega, ?_⟩⟩
    have e1 := hv p (by omega)
    rw [if_neg (by omega)] at e1
    have e2 := hv (p - v) (by omega)
    rw [if_pos (by omega), show ((p - v : Nat) : Int) = (p : Int) - (v : Int) by omega] at e2
    rw [e1, e2]
    have := ih (p + 1) (wJ τ 202 (p : Int) (s p + divX v s (p - v))) (by omega) (by omega) hS (fun j hj => ?_) (f.tr (Fz.wJ rfl))
    · rw [Int.natCast_succ] at this
      exact this
    · rw [zJ_wJ]
      by_cases c : j = p
      · rw [if_pos ⟨rfl, by omega⟩, if_pos (by omega), c, divX_eq v1 s p]
        unfold shS
        rw [if_pos (by omega)]
      · rw [if_neg (by omega), hv j hj]
        by_cases c2 : j < p
        · rw [if_pos c2, if_pos (by omega)]
        · rw [if_neg c2, if_neg (by omega)]
theorem t_mMakeOwn {Q : ZQ} {σ : ZM} {L : Int → LW} {l : Int} (hS : Shp σ) (mL : MLaw σ L) (l0 : 0 ≤ l) (l1 : l ≤ 7) (hk : L l 0 = 4 ∨ L l 0 = 5) (q : ∀ σ', RV0 σ' 202 (cntS (L l)) → Fz owf σ σ' → Q zu σ') : WP m_Mod_makeOwn 0 [zr 192, zi l, zu, zu, zu, zu] [] σ (0, 0) Q := by
  have ok := (mL l l0 l1).1
  have k41 : L l 0 = 4 → ∀ (g v : Nat) (τ : ZM) (u1 u3 u4 u5 : PV) (s : SQ), 1 ≤ v → v ≤ 405 → 401 ≤ v + g → RV0 τ 202 s → Fz owf σ τ → (∀ σ', RV0 σ' 202 (plF g v s) → Fz owf σ σ' → Q zu σ') → WP m_Mod_makeOwn 41 [zr 192, u1, zi (v : Int), u3, u4, u5] [] τ (0, 0) Q := by
    intro _ g
    induction g with
    | zero =>
      intro v τ u1 u3 u4 u5 s v1 v8 hg hs f q
      exact r_Mod_makeOwn_41 ⟨fun _ => q τ hs f, fun c => by omega⟩
    | succ g ih =>
      intro v τ u1 u3 u4 u5 s v1 v8 hg hs f q
      refine r_Mod_makeOwn_41 ⟨fun c => ?_, fun c => ?_⟩
      · rw [plF_far (by omega)] at q
        exact q τ hs f
      · refine t_mo52 (σ0 := σ) (s := s) v1 (by omega) u4 u5 (fun σ' a1 a3 w1 w2 => ?_) (401 - v) 400 τ _ (by omega) (by omega) (f.shp hS) (fun n hn => by rw [if_pos (by omega)]; exact hs n hn) f
        have := ih (v + 2) σ' a1 a3 u4 u5 (plusX v s) (by omega) (by omega) (by omega) w1 w2 (fun σ2 z1 z2 => q σ2 (by
          show RV0 σ2 202 (if v ≤ 400 then plF g (v + 2) (plusX v s) else s)
          rw [if_pos (by omega)]
          exact z1) z2)
        exact this
  have k147 : L l 0 = 5 → ∀ (g v : Nat) (τ : ZM) (u1 u4 u5 : PV) (s : SQ), 1 ≤ v → v ≤ 420 → 401 ≤ v + g → RV0 τ 202 s → Fz owf σ τ → (∀ σ', RV0 σ' 202 (facs (L l 1).toNat (L l 1) g v s) → Fz owf σ σ' → Q zu σ') → WP m_Mod_makeOwn 147 [zr 192, u1, zi (L l 1), zi (v : Int), u4, u5] [] τ (0, 0) Q := by
    intro h5 g
    have hw : 2 ≤ L l 1 ∧ L l 1 ≤ 12 := by unfold lawOK canB at ok; omega
    induction g with
    | zero =>
      intro v τ u1 u4 u5 s v1 v8 hg hs f q
      exact r_Mod_makeOwn_147 ⟨fun _ => q τ hs f, fun c => by omega⟩
    | succ g ih =>
      intro v τ u1 u4 u5 s v1 v8 hg hs f q
      refine r_Mod_makeOwn_147 ⟨fun c => ?_, fun c => ?_⟩
      · rw [facs_far (by omega)] at q
        exact q τ hs f
      · have k157 : ∀ (h i : Nat) (υ : ZM) (u5 : PV), (i : Int) + h = L l 1 → RV0 υ 202 (itr (mulX v) i s) → Fz owf σ υ → WP m_Mod_makeOwn 157 [zr 192, u1, zi (L l 1), zi (v : Int), zi (i : Int), u5] [] υ (0, 0) Q := by
          intro h
          induction h with
          | zero =>
            intro i υ u5 hi hv f2
            refine r_Mod_makeOwn_157 ⟨fun _ => ⟨by omega, ?_⟩, fun c => by omega⟩
            have := ih (v + (L l 1).toNat) υ u1 (zi (i : Int)) u5 (pwX v (L l 1) s) (by omega) (by omega) (by omega) (by
              unfold pwX
              rw [if_pos (by omega), show (L l 1).toNat = i by omega]
              exact hv) f2 (fun σ2 z1 z2 => q σ2 (by
              show RV0 σ2 202 (if v ≤ 400 then facs (L l 1).toNat (L l 1) g (v + (L l 1).toNat) (pwX v (L l 1) s) else s)
              rw [if_pos (by omega)]
              exact z1) z2)
            rw [show ((v + (L l 1).toNat : Nat) : Int) = (v : Int) + L l 1 by omega] at this
            exact this
          | succ h ihh =>
            intro i υ u5 hi hv f2
            refine r_Mod_makeOwn_157 ⟨fun c => by omega, fun _ => ?_⟩
            refine t_mo168 (σ0 := σ) (s := itr (mulX v) i s) v1 (by omega) (by omega) (by omega) u1 (fun σ' a5 w1 w2 => ?_) (401 - v) 400 υ (by omega) (by omega) (f2.shp hS) (fun n hn => by rw [if_pos (by omega)]; exact hv n hn) f2
            have := ihh (i + 1) σ' a5 (by omega) w1 w2
            rw [Int.natCast_succ] at this
            exact this
        exact k157 (L l 1).toNat 0 τ u5 (by omega) hs f
  have k96 : L l 0 = 5 → ∀ (g v : Nat) (τ : ZM) (u1 u4 u5 : PV) (s : SQ), 1 ≤ v → v + g = 401 → RV0 τ 202 s → Fz owf σ τ → (∀ σ', RV0 σ' 202 (facs (L l 1).toNat (L l 1) 401 (L l 1).toNat (facs 1 (-1) g v s)) → Fz owf σ σ' → Q zu σ') → WP m_Mod_makeOwn 96 [zr 192, u1, zi (L l 1), zi (v : Int), u4, u5] [] τ (0, 0) Q := by
    intro h5 g
    have hw : 2 ≤ L l 1 ∧ L l 1 ≤ 12 := by unfold lawOK canB at ok; omega
    induction g with
    | zero =>
      intro v τ u1 u4 u5 s v1 hg hs f q
      refine r_Mod_makeOwn_96 ⟨fun _ => ?_, fun c => by omega⟩
      have := k147 h5 401 (L l 1).toNat τ u1 u4 u5 s (by omega) (by omega) (by omega) hs f q
      rw [show ((L l 1).toNat : Int) = L l 1 by omega] at this
      exact this
    | succ g ih =>
      intro v τ u1 u4 u5 s v1 hg hs f q
      refine r_Mod_makeOwn_96 ⟨fun c => by omega, fun c => ?_⟩
      refine t_mo106 (σ0 := σ) (s := s) v1 (by omega) u1 u5 (fun σ' a4 w1 w2 => ?_) (401 - v) v τ (by omega) (Nat.le_refl _) (f.shp hS) (fun n hn => ?_) f
      · have := ih (v + 1) σ' u1 a4 u5 (divX v s) (by omega) (by omega) w1 w2 (fun σ2 z1 z2 => q σ2 (by
          have : facs 1 (-1) (g + 1) v s = facs 1 (-1) g (v + 1) (divX v s) := by
            show (if v ≤ 400 then facs 1 (-1) g (v + 1) (pwX v (-1) s) else s) = _
            rw [if_pos (by omega), pw_neg]
          rw [this]
          exact z1) z2)
        rw [Int.natCast_succ] at this
        exact this
      · rw [hs n hn]
        split
        · rw [divX_low v1 (by assumption)]
        · rfl
  have first : ∀ (m r : Nat) (τ : ZM) (u3 u4 u5 : PV), r + m = 401 → (∀ r' : Nat, r' < r → zJ τ 202 (r' : Int) = oneS r') → Fz owf σ τ → WP m_Mod_makeOwn 2 [zr 192, zi l, zi (r : Int), u3, u4, u5] [] τ (0, 0) Q := by
    intro m
    induction m with
    | zero =>
      intro r τ u3 u4 u5 hm hv f
      have hT := f.shp hS
      have mT := f.mlaw (fun j => by omega) mL
      have h1 : RV0 τ 202 oneS := fun n hn => hv n (by omega)
      refine r_Mod_makeOwn_2 ?_
      simp only [hT, zrI, zrL, zrR, Shp_wI, Shp_wJ, zR_wI, zR_wJ, zJ_wI, zI_wJ, zobj_wI, zobj_wJ, zarr_wI, zarr_wJ, zS_wI, zS_wJ, o_192, a_193, a_194, a_195, a_196, a_197, a_198, a_199, a_200, a_201, a_202, a_203, a_204, a_205, a_206, a_207, a_208, a_209, a_210, r_192_0, r_192_1, r_192_2, r_192_3, r_192_4, r_192_5, r_192_7, r_192_8, r_192_14, r_192_16, r_192_17, r_192_18, r_192_19, r_192_20, r_192_22, r_192_23, r_192_25, r_192_26, zrI, zrL, zrR, ne_eq, true_and, and_true, true_or, or_true, not_true_eq_false, not_false_eq_true, false_and, and_false, forall_const, true_implies, false_implies, implies_true, reduceCtorEq, Int.reduceEq, Int.reduceNe, Int.reduceLT, Int.reduceLE, Int.reduceNeg, Nat.reduceEqDiff, if_true, if_false, reduceIte, Int.reduceMul, Int.reduceAdd, Int.reduceSub]
      refine ⟨fun _ => t_mKind hT mT l0 l1 ?_, fun c => by omega⟩
      simp only [hT, zrI, zrL, zrR, Shp_wI, Shp_wJ, zR_wI, zR_wJ, zJ_wI, zI_wJ, zobj_wI, zobj_wJ, zarr_wI, zarr_wJ, zS_wI, zS_wJ, o_192, a_193, a_194, a_195, a_196, a_197, a_198, a_199, a_200, a_201, a_202, a_203, a_204, a_205, a_206, a_207, a_208, a_209, a_210, r_192_0, r_192_1, r_192_2, r_192_3, r_192_4, r_192_5, r_192_7, r_192_8, r_192_14, r_192_16, r_192_17, r_192_18, r_192_19, r_192_20, r_192_22, r_192_23, r_192_25, r_192_26, zrI, zrL, zrR, ne_eq, true_and, and_true, true_or, or_true, not_true_eq_false, not_false_eq_true, false_and, and_false, forall_const, true_implies, false_implies, implies_true, reduceCtorEq, Int.reduceEq, Int.reduceNe, Int.reduceLT, Int.reduceLE, Int.reduceNeg, Nat.reduceEqDiff, if_true, if_false, reduceIte, Int.reduceMul, Int.reduceAdd, Int.reduceSub]
      refine ⟨fun c => t_mNum hT mT l0 l1 (by omega) (by omega) ?_, fun c => ?_⟩
      · have h5 : L l 0 = 5 := by omega
        refine k96 h5 400 1 τ _ _ _ oneS (by omega) (by omega) h1 f (fun σ' w1 w2 => q σ' ?_ w2)
        have hw : 2 ≤ L l 1 ∧ L l 1 ≤ 12 := by unfold lawOK canB at ok; omega
        unfold cntS
        rw [if_neg (by omega), if_neg (by omega), if_neg (by omega)]
        unfold facX
        rw [if_pos rfl, if_pos rfl]
        have e : ∀ (g k : Nat) (s : SQ), k + g = 401 → facs 1 (-1) (g + 1) k s = facs 1 (-1) g k s := by
          intro g
          induction g with
          | zero =>
            intro k s hk
            rw [facs_far (by omega), facs_far (by omega)]
          | succ g ihg =>
            intro k s hk
            show (if k ≤ 400 then facs 1 (-1) (g + 1) (k + 1) (pwX k (-1) s) else s) = if k ≤ 400 then facs 1 (-1) g (k + 1) (pwX k (-1) s) else s
            rw [ihg (k + 1) _ (by omega)]
        rw [e 400 1 oneS (by omega)]
        exact w1
      · refine k41 c 401 1 τ _ _ _ _ oneS (by omega) (by omega) (by omega) h1 f (fun σ' w1 w2 => q σ' ?_ w2)
        unfold cntS
        rw [if_neg (by omega), if_neg (by omega), if_pos c]
        unfold facX
        rw [if_neg (by omega), if_neg (by omega)]
        exact w1.lk (own_eq 401 1 oneS (by omega))
    | succ m ih =>
      intro r τ u3 u4 u5 hm hv f
      have go : ∀ x : Int64, x = oneS r → WP m_Mod_makeOwn 2 [zr 192, zi l, zi ((r : Int) + 1), u3, u4, u5] [] (wJ τ 202 (r : Int) x) (0, 0) Q := fun x hx => by
        have := ih (r + 1) (wJ τ 202 (r : Int) x) u3 u4 u5 (by omega) (fun r' h1 => ?_) (f.tr (Fz.wJ rfl))
        · rw [Int.natCast_succ] at this
          exact this
        · rw [zJ_wJ]
          by_cases e : r' = r
          · rw [if_pos ⟨rfl, by omega⟩, e, hx]
          · rw [if_neg (by omega)]
            exact hv r' (by omega)
      refine r_Mod_makeOwn_2 ?_
      simp only [f.shp hS, zrI, zrL, zrR, Shp_wI, Shp_wJ, zR_wI, zR_wJ, zJ_wI, zI_wJ, zobj_wI, zobj_wJ, zarr_wI, zarr_wJ, zS_wI, zS_wJ, o_192, a_193, a_194, a_195, a_196, a_197, a_198, a_199, a_200, a_201, a_202, a_203, a_204, a_205, a_206, a_207, a_208, a_209, a_210, r_192_0, r_192_1, r_192_2, r_192_3, r_192_4, r_192_5, r_192_7, r_192_8, r_192_14, r_192_16, r_192_17, r_192_18, r_192_19, r_192_20, r_192_22, r_192_23, r_192_25, r_192_26, zrI, zrL, zrR, ne_eq, true_and, and_true, true_or, or_true, not_true_eq_false, not_false_eq_true, false_and, and_false, forall_const, true_implies, false_implies, implies_true, reduceCtorEq, Int.reduceEq, Int.reduceNe, Int.reduceLT, Int.reduceLE, Int.reduceNeg, Nat.reduceEqDiff, if_true, if_false, reduceIte, Int.reduceMul, Int.reduceAdd, Int.reduceSub]
      refine ⟨fun c => by omega, fun _ => ⟨fun c => ⟨by omega, by omega, go 0 ?_⟩, fun c => ⟨by omega, by omega, go 1 ?_⟩⟩⟩
      · unfold oneS; rw [if_neg (by omega)]
      · unfold oneS; rw [if_pos (by omega)]
  exact r_Mod_makeOwn_0 (first 401 0 σ _ _ _ (by omega) (fun r' h => by omega) Fz.rf)
abbrev mcf (a : Nat) (j : Int) : Prop := mtf a j ∨ a = 201 ∨ (a = 192 ∧ j = 15) ∨ a = 202
theorem t_mCountOf {Q : ZQ} {σ : ZM} {L : Int → LW} {l n : Int} (hS : Shp σ) (mC : MCo σ L) (l0 : 0 ≤ l) (l1 : l ≤ 7) (n0 : 0 ≤ n) (n1 : n ≤ covN (L l)) (q : ∀ σ', MCo σ' L → Fz mcf σ σ' → Q (zl (cntS (L l) n.toNat)) σ') : WP m_Mod_countOf 0 [zr 192, zi l, zi n] [] σ (0, 0) Q := by
  obtain ⟨mL, mT, mB, m2⟩ := id mC
  have ok := (mL l l0 l1).1
  have hk0 : 0 ≤ L l 0 ∧ L l 0 ≤ 5 := by unfold lawOK canB at ok; omega
  have n4 : n ≤ 400 := by unfold covN at n1; split at n1 <;> omega
  refine r_Mod_countOf_0 ?_
  simp only [hS, zrI, zrL, zrR, Shp_wI, Shp_wJ, zR_wI, zR_wJ, zJ_wI, zI_wJ, zobj_wI, zobj_wJ, zarr_wI, zarr_wJ, zS_wI, zS_wJ, o_192, a_193, a_194, a_195, a_196, a_197, a_198, a_199, a_200, a_201, a_202, a_203, a_204, a_205, a_206, a_207, a_208, a_209, a_210, r_192_0, r_192_1, r_192_2, r_192_3, r_192_4, r_192_5, r_192_7, r_192_8, r_192_14, r_192_16, r_192_17, r_192_18, r_192_19, r_192_20, r_192_22, r_192_23, r_192_25, r_192_26, zrI, zrL, zrR, ne_eq, true_and, and_true, true_or, or_true, not_true_eq_false, not_false_eq_true, false_and, and_false, forall_const, true_implies, false_implies, implies_true, reduceCtorEq, Int.reduceEq, Int.reduceNe, Int.reduceLT, Int.reduceLE, Int.reduceNeg, Nat.reduceEqDiff, if_true, if_false, reduceIte, Int.reduceMul, Int.reduceAdd, Int.reduceSub]
  refine t_mKind hS mL l0 l1 ?_
  simp only [hS, zrI, zrL, zrR, Shp_wI, Shp_wJ, zR_wI, zR_wJ, zJ_wI, zI_wJ, zobj_wI, zobj_wJ, zarr_wI, zarr_wJ, zS_wI, zS_wJ, o_192, a_193, a_194, a_195, a_196, a_197, a_198, a_199, a_200, a_201, a_202, a_203, a_204, a_205, a_206, a_207, a_208, a_209, a_210, r_192_0, r_192_1, r_192_2, r_192_3, r_192_4, r_192_5, r_192_7, r_192_8, r_192_14, r_192_16, r_192_17, r_192_18, r_192_19, r_192_20, r_192_22, r_192_23, r_192_25, r_192_26, zrI, zrL, zrR, ne_eq, true_and, and_true, true_or, or_true, not_true_eq_false, not_false_eq_true, false_and, and_false, forall_const, true_implies, false_implies, implies_true, reduceCtorEq, Int.reduceEq, Int.reduceNe, Int.reduceLT, Int.reduceLE, Int.reduceNeg, Nat.reduceEqDiff, if_true, if_false, reduceIte, Int.reduceMul, Int.reduceAdd, Int.reduceSub]
  refine ⟨fun e => ?_, fun e => ?_, fun e => ?_, fun e => ?_, fun e => ?_⟩
  · refine t_mMake hS mL mT l0 l1 (by omega) (fun τ w1 w2 w3 => ?_)
    have hT := w3.shp hS
    have mC' : MCo τ L := ⟨w3.mlaw (fun j => by omega) mL, w2, w3.mboxI (by omega) (fun j => by omega) mB, w3.mtwoI (by omega) (fun j => by omega) m2⟩
    simp only [hT, zrI, zrL, zrR, Shp_wI, Shp_wJ, zR_wI, zR_wJ, zJ_wI, zI_wJ, zobj_wI, zobj_wJ, zarr_wI, zarr_wJ, zS_wI, zS_wJ, o_192, a_193, a_194, a_195, a_196, a_197, a_198, a_199, a_200, a_201, a_202, a_203, a_204, a_205, a_206, a_207, a_208, a_209, a_210, r_192_0, r_192_1, r_192_2, r_192_3, r_192_4, r_192_5, r_192_7, r_192_8, r_192_14, r_192_16, r_192_17, r_192_18, r_192_19, r_192_20, r_192_22, r_192_23, r_192_25, r_192_26, zrI, zrL, zrR, ne_eq, true_and, and_true, true_or, or_true, not_true_eq_false, not_false_eq_true, false_and, and_false, forall_const, true_implies, false_implies, implies_true, reduceCtorEq, Int.reduceEq, Int.reduceNe, Int.reduceLT, Int.reduceLE, Int.reduceNeg, Nat.reduceEqDiff, if_true, if_false, reduceIte, Int.reduceMul, Int.reduceAdd, Int.reduceSub]
    refine t_mCell hT (by omega) (by omega) (by omega) ?_
    have ev := w1.1 (by omega) 400 n.toNat (by omega) (by omega)
    rw [show 401 * ((400 : Nat) : Int) + (n.toNat : Int) = 401 * 400 + n by omega] at ev
    rw [if_neg (by omega), ev]
    have := q τ mC' (w3.mono (fun a j w => Or.inl w))
    unfold cntS at this
    rw [if_pos (by omega)] at this
    unfold tabN at this
    rw [if_neg (by omega)] at this
    rw [TB_clip (by omega)]
    exact this
  · refine t_mMake hS mL mT l0 l1 (by omega) (fun τ w1 w2 w3 => ?_)
    have hT := w3.shp hS
    have mC' : MCo τ L := ⟨w3.mlaw (fun j => by omega) mL, w2, w3.mboxI (by omega) (fun j => by omega) mB, w3.mtwoI (by omega) (fun j => by omega) m2⟩
    have := q τ mC' (w3.mono (fun a j w => Or.inl w))
    unfold cntS at this
    rw [if_pos (by omega)] at this
    unfold tabN at this
    rw [if_pos e] at this
    simp only [hT, zrI, zrL, zrR, Shp_wI, Shp_wJ, zR_wI, zR_wJ, zJ_wI, zI_wJ, zobj_wI, zobj_wJ, zarr_wI, zarr_wJ, zS_wI, zS_wJ, o_192, a_193, a_194, a_195, a_196, a_197, a_198, a_199, a_200, a_201, a_202, a_203, a_204, a_205, a_206, a_207, a_208, a_209, a_210, r_192_0, r_192_1, r_192_2, r_192_3, r_192_4, r_192_5, r_192_7, r_192_8, r_192_14, r_192_16, r_192_17, r_192_18, r_192_19, r_192_20, r_192_22, r_192_23, r_192_25, r_192_26, zrI, zrL, zrR, ne_eq, true_and, and_true, true_or, or_true, not_true_eq_false, not_false_eq_true, false_and, and_false, forall_const, true_implies, false_implies, implies_true, reduceCtorEq, Int.reduceEq, Int.reduceNe, Int.reduceLT, Int.reduceLE, Int.reduceNeg, Nat.reduceEqDiff, if_true, if_false, reduceIte, Int.reduceMul, Int.reduceAdd, Int.reduceSub]
    refine ⟨fun c => ⟨by omega, by omega, by omega, ?_⟩, fun c => ?_⟩
    · have ev := (w1.2 e).2 n.toNat n.toNat (by omega) (by omega)
      rw [if_neg (by omega), show 401 * (n.toNat : Int) + (n.toNat : Int) = 401 * n + n by omega] at ev
      rw [ev]
      exact this
    · rw [show n.toNat = 0 by omega, GB_n0] at this
      exact this
  · have hc : covN (L l) = 60 := by unfold covN; rw [if_pos e]
    have hw : 0 ≤ L l 1 ∧ L l 1 ≤ 60 ∧ 0 ≤ L l 2 ∧ L l 2 ≤ 60 := by unfold lawOK canB at ok; omega
    refine t_mMakeBox hS mB (fun τ w1 w2 => ?_)
    have hT := w2.shp hS
    have mL' := w2.mlaw (fun j => by omega) mL
    have mC' : MCo τ L := ⟨mL', w2.mtabI (fun j a b => by omega) (fun j => by omega) (fun j => by omega) mT, Or.inr w1, w2.mtwoI (by omega) (fun j => by omega) m2⟩
    simp only [hT, zrI, zrL, zrR, Shp_wI, Shp_wJ, zR_wI, zR_wJ, zJ_wI, zI_wJ, zobj_wI, zobj_wJ, zarr_wI, zarr_wJ, zS_wI, zS_wJ, o_192, a_193, a_194, a_195, a_196, a_197, a_198, a_199, a_200, a_201, a_202, a_203, a_204, a_205, a_206, a_207, a_208, a_209, a_210, r_192_0, r_192_1, r_192_2, r_192_3, r_192_4, r_192_5, r_192_7, r_192_8, r_192_14, r_192_16, r_192_17, r_192_18, r_192_19, r_192_20, r_192_22, r_192_23, r_192_25, r_192_26, zrI, zrL, zrR, ne_eq, true_and, and_true, true_or, or_true, not_true_eq_false, not_false_eq_true, false_and, and_false, forall_const, true_implies, false_implies, implies_true, reduceCtorEq, Int.reduceEq, Int.reduceNe, Int.reduceLT, Int.reduceLE, Int.reduceNeg, Nat.reduceEqDiff, if_true, if_false, reduceIte, Int.reduceMul, Int.reduceAdd, Int.reduceSub]
    refine t_mNum hT mL' l0 l1 (by omega) (by omega) ?_
    simp only [hT, zrI, zrL, zrR, Shp_wI, Shp_wJ, zR_wI, zR_wJ, zJ_wI, zI_wJ, zobj_wI, zobj_wJ, zarr_wI, zarr_wJ, zS_wI, zS_wJ, o_192, a_193, a_194, a_195, a_196, a_197, a_198, a_199, a_200, a_201, a_202, a_203, a_204, a_205, a_206, a_207, a_208, a_209, a_210, r_192_0, r_192_1, r_192_2, r_192_3, r_192_4, r_192_5, r_192_7, r_192_8, r_192_14, r_192_16, r_192_17, r_192_18, r_192_19, r_192_20, r_192_22, r_192_23, r_192_25, r_192_26, zrI, zrL, zrR, ne_eq, true_and, and_true, true_or, or_true, not_true_eq_false, not_false_eq_true, false_and, and_false, forall_const, true_implies, false_implies, implies_true, reduceCtorEq, Int.reduceEq, Int.reduceNe, Int.reduceLT, Int.reduceLE, Int.reduceNeg, Nat.reduceEqDiff, if_true, if_false, reduceIte, Int.reduceMul, Int.reduceAdd, Int.reduceSub]
    refine t_mNum hT mL' l0 l1 (by omega) (by omega) ?_
    simp only [hT, zrI, zrL, zrR, Shp_wI, Shp_wJ, zR_wI, zR_wJ, zJ_wI, zI_wJ, zobj_wI, zobj_wJ, zarr_wI, zarr_wJ, zS_wI, zS_wJ, o_192, a_193, a_194, a_195, a_196, a_197, a_198, a_199, a_200, a_201, a_202, a_203, a_204, a_205, a_206, a_207, a_208, a_209, a_210, r_192_0, r_192_1, r_192_2, r_192_3, r_192_4, r_192_5, r_192_7, r_192_8, r_192_14, r_192_16, r_192_17, r_192_18, r_192_19, r_192_20, r_192_22, r_192_23, r_192_25, r_192_26, zrI, zrL, zrR, ne_eq, true_and, and_true, true_or, or_true, not_true_eq_false, not_false_eq_true, false_and, and_false, forall_const, true_implies, false_implies, implies_true, reduceCtorEq, Int.reduceEq, Int.reduceNe, Int.reduceLT, Int.reduceLE, Int.reduceNeg, Nat.reduceEqDiff, if_true, if_false, reduceIte, Int.reduceMul, Int.reduceAdd, Int.reduceSub]
    refine t_mInBoxV hT w1 hw.1 hw.2.1 hw.2.2.1 hw.2.2.2 (by omega) ?_
    have := q τ mC' (w2.mono (fun a j w => by omega))
    unfold cntS at this
    rw [if_neg (by omega), if_pos e] at this
    unfold bxL
    rw [if_neg (by omega)]
    exact this
  · refine t_mMakeOwn hS mL l0 l1 (Or.inl e) (fun τ w1 w2 => ?_)
    have hT := w2.shp hS
    have ev := w1 n.toNat (by omega)
    rw [show (n.toNat : Int) = n by omega] at ev
    simp only [hT, ev, zrI, zrL, zrR, Shp_wI, Shp_wJ, zR_wI, zR_wJ, zJ_wI, zI_wJ, zobj_wI, zobj_wJ, zarr_wI, zarr_wJ, zS_wI, zS_wJ, o_192, a_193, a_194, a_195, a_196, a_197, a_198, a_199, a_200, a_201, a_202, a_203, a_204, a_205, a_206, a_207, a_208, a_209, a_210, r_192_0, r_192_1, r_192_2, r_192_3, r_192_4, r_192_5, r_192_7, r_192_8, r_192_14, r_192_16, r_192_17, r_192_18, r_192_19, r_192_20, r_192_22, r_192_23, r_192_25, r_192_26, zrI, zrL, zrR, ne_eq, true_and, and_true, true_or, or_true, not_true_eq_false, not_false_eq_true, false_and, and_false, forall_const, true_implies, false_implies, implies_true, reduceCtorEq, Int.reduceEq, Int.reduceNe, Int.reduceLT, Int.reduceLE, Int.reduceNeg, Nat.reduceEqDiff, if_true, if_false, reduceIte, Int.reduceMul, Int.reduceAdd, Int.reduceSub]
    exact ⟨by omega, q τ (w2.mco (fun a j w => by omega) mC) (w2.mono (fun a j w => by omega))⟩
  · refine t_mMakeOwn hS mL l0 l1 (Or.inr e) (fun τ w1 w2 => ?_)
    have hT := w2.shp hS
    have ev := w1 n.toNat (by omega)
    rw [show (n.toNat : Int) = n by omega] at ev
    simp only [hT, ev, zrI, zrL, zrR, Shp_wI, Shp_wJ, zR_wI, zR_wJ, zJ_wI, zI_wJ, zobj_wI, zobj_wJ, zarr_wI, zarr_wJ, zS_wI, zS_wJ, o_192, a_193, a_194, a_195, a_196, a_197, a_198, a_199, a_200, a_201, a_202, a_203, a_204, a_205, a_206, a_207, a_208, a_209, a_210, r_192_0, r_192_1, r_192_2, r_192_3, r_192_4, r_192_5, r_192_7, r_192_8, r_192_14, r_192_16, r_192_17, r_192_18, r_192_19, r_192_20, r_192_22, r_192_23, r_192_25, r_192_26, zrI, zrL, zrR, ne_eq, true_and, and_true, true_or, or_true, not_true_eq_false, not_false_eq_true, false_and, and_false, forall_const, true_implies, false_implies, implies_true, reduceCtorEq, Int.reduceEq, Int.reduceNe, Int.reduceLT, Int.reduceLE, Int.reduceNeg, Nat.reduceEqDiff, if_true, if_false, reduceIte, Int.reduceMul, Int.reduceAdd, Int.reduceSub]
    exact ⟨by omega, q τ (w2.mco (fun a j w => by omega) mC) (w2.mono (fun a j w => by omega))⟩
theorem t_mIsSize {Q : ZQ} {σ : ZM} {L : Int → LW} {l n : Int} (hS : Shp σ) (mL : MLaw σ L) (l0 : 0 ≤ l) (l1 : l ≤ 7) (hn : -2147483648 ≤ n ∧ n ≤ 2147483647) (q1 : 0 ≤ n → n ≤ covN (L l) → Q (zi 1) σ) (q0 : (n < 0 ∨ covN (L l) < n) → Q (zi 0) σ) : WP m_Mod_isSize 0 [zr 192, zi l, zi n] [] σ (0, 0) Q := by
  unfold covN at q1 q0
  refine r_Mod_isSize_0 ?_
  simp only [hS, zrI, zrL, zrR, Shp_wI, Shp_wJ, zR_wI, zR_wJ, zJ_wI, zI_wJ, zobj_wI, zobj_wJ, zarr_wI, zarr_wJ, zS_wI, zS_wJ, o_192, a_193, a_194, a_195, a_196, a_197, a_198, a_199, a_200, a_201, a_202, a_203, a_204, a_205, a_206, a_207, a_208, a_209, a_210, r_192_0, r_192_1, r_192_2, r_192_3, r_192_4, r_192_5, r_192_7, r_192_8, r_192_14, r_192_16, r_192_17, r_192_18, r_192_19, r_192_20, r_192_22, r_192_23, r_192_25, r_192_26, zrI, zrL, zrR, ne_eq, true_and, and_true, true_or, or_true, not_true_eq_false, not_false_eq_true, false_and, and_false, forall_const, true_implies, false_implies, implies_true, reduceCtorEq, Int.reduceEq, Int.reduceNe, Int.reduceLT, Int.reduceLE, Int.reduceNeg, Nat.reduceEqDiff, if_true, if_false, reduceIte, Int.reduceMul, Int.reduceAdd, Int.reduceSub]
  refine t_mKind hS mL l0 l1 ?_
  simp only [hS, zrI, zrL, zrR, Shp_wI, Shp_wJ, zR_wI, zR_wJ, zJ_wI, zI_wJ, zobj_wI, zobj_wJ, zarr_wI, zarr_wJ, zS_wI, zS_wJ, o_192, a_193, a_194, a_195, a_196, a_197, a_198, a_199, a_200, a_201, a_202, a_203, a_204, a_205, a_206, a_207, a_208, a_209, a_210, r_192_0, r_192_1, r_192_2, r_192_3, r_192_4, r_192_5, r_192_7, r_192_8, r_192_14, r_192_16, r_192_17, r_192_18, r_192_19, r_192_20, r_192_22, r_192_23, r_192_25, r_192_26, zrI, zrL, zrR, ne_eq, true_and, and_true, true_or, or_true, not_true_eq_false, not_false_eq_true, false_and, and_false, forall_const, true_implies, false_implies, implies_true, reduceCtorEq, Int.reduceEq, Int.reduceNe, Int.reduceLT, Int.reduceLE, Int.reduceNeg, Nat.reduceEqDiff, if_true, if_false, reduceIte, Int.reduceMul, Int.reduceAdd, Int.reduceSub]
  refine ⟨fun e => ?_, fun e => ?_⟩
  · rw [if_neg e] at q1 q0
    refine t_inN (n := 0) (m := 400) hn (by decide) (by decide) (fun a b => ?_) (fun a => ?_)
    · simp only [zrI, zrL, zrR, ne_eq, true_and, and_true, true_or, or_true, not_true_eq_false, not_false_eq_true, false_and, and_false, forall_const, true_implies, false_implies, implies_true, reduceCtorEq, Int.reduceEq, Int.reduceNe, Int.reduceLT, Int.reduceLE, Int.reduceNeg, Nat.reduceEqDiff, if_true, if_false, reduceIte, Int.reduceMul, Int.reduceAdd, Int.reduceSub]; exact q1 (by omega) (by omega)
    · simp only [zrI, zrL, zrR, ne_eq, true_and, and_true, true_or, or_true, not_true_eq_false, not_false_eq_true, false_and, and_false, forall_const, true_implies, false_implies, implies_true, reduceCtorEq, Int.reduceEq, Int.reduceNe, Int.reduceLT, Int.reduceLE, Int.reduceNeg, Nat.reduceEqDiff, if_true, if_false, reduceIte, Int.reduceMul, Int.reduceAdd, Int.reduceSub]; exact q0 (by omega)
  · rw [if_pos e] at q1 q0
    refine t_inN (n := 0) (m := 60) hn (by decide) (by decide) (fun a b => ?_) (fun a => ?_)
    · simp only [zrI, zrL, zrR, ne_eq, true_and, and_true, true_or, or_true, not_true_eq_false, not_false_eq_true, false_and, and_false, forall_const, true_implies, false_implies, implies_true, reduceCtorEq, Int.reduceEq, Int.reduceNe, Int.reduceLT, Int.reduceLE, Int.reduceNeg, Nat.reduceEqDiff, if_true, if_false, reduceIte, Int.reduceMul, Int.reduceAdd, Int.reduceSub]; exact q1 (by omega) (by omega)
    · simp only [zrI, zrL, zrR, ne_eq, true_and, and_true, true_or, or_true, not_true_eq_false, not_false_eq_true, false_and, and_false, forall_const, true_implies, false_implies, implies_true, reduceCtorEq, Int.reduceEq, Int.reduceNe, Int.reduceLT, Int.reduceLE, Int.reduceNeg, Nat.reduceEqDiff, if_true, if_false, reduceIte, Int.reduceMul, Int.reduceAdd, Int.reduceSub]; exact q0 (by omega)
theorem m_count {Q : ZQ} {σ : ZM} {L : Int → LW} {l n : Int} (hS : Shp σ) (mC : MCo σ L) (hl : -2147483648 ≤ l ∧ l ≤ 2147483647) (hn : -2147483648 ≤ n ∧ n ≤ 2147483647)
    (q0 : (l < 0 ∨ 7 < l ∨ n < 0 ∨ covN (L l) < n) → Q (zl (Int64.ofNat 18446744073709551614)) σ) (q1 : 0 ≤ l → l ≤ 7 → 0 ≤ n → n ≤ covN (L l) → ∀ σ', MCo σ' L → Fz mcf σ σ' → Q (zl (cntS (L l) n.toNat)) σ') : WP m_Mod_count 0 [zr 192, zi l, zi n] [] σ (0, 0) Q := by
  refine r_Mod_count_0 (t_inN (n := 0) (m := 7) hl (by decide) (by decide) (fun l0 l1 => ?_) (fun c => ?_))
  · simp only [hS, zrI, zrL, zrR, Shp_wI, Shp_wJ, zR_wI, zR_wJ, zJ_wI, zI_wJ, zobj_wI, zobj_wJ, zarr_wI, zarr_wJ, zS_wI, zS_wJ, o_192, a_193, a_194, a_195, a_196, a_197, a_198, a_199, a_200, a_201, a_202, a_203, a_204, a_205, a_206, a_207, a_208, a_209, a_210, r_192_0, r_192_1, r_192_2, r_192_3, r_192_4, r_192_5, r_192_7, r_192_8, r_192_14, r_192_16, r_192_17, r_192_18, r_192_19, r_192_20, r_192_22, r_192_23, r_192_25, r_192_26, zrI, zrL, zrR, ne_eq, true_and, and_true, true_or, or_true, not_true_eq_false, not_false_eq_true, false_and, and_false, forall_const, true_implies, false_implies, implies_true, reduceCtorEq, Int.reduceEq, Int.reduceNe, Int.reduceLT, Int.reduceLE, Int.reduceNeg, Nat.reduceEqDiff, if_true, if_false, reduceIte, Int.reduceMul, Int.reduceAdd, Int.reduceSub]
    refine t_mIsSize hS mC.1 (by omega) (by omega) hn (fun n0 n1 => ?_) (fun c => ?_)
    · simp only [hS, zrI, zrL, zrR, Shp_wI, Shp_wJ, zR_wI, zR_wJ, zJ_wI, zI_wJ, zobj_wI, zobj_wJ, zarr_wI, zarr_wJ, zS_wI, zS_wJ, o_192, a_193, a_194, a_195, a_196, a_197, a_198, a_199, a_200, a_201, a_202, a_203, a_204, a_205, a_206, a_207, a_208, a_209, a_210, r_192_0, r_192_1, r_192_2, r_192_3, r_192_4, r_192_5, r_192_7, r_192_8, r_192_14, r_192_16, r_192_17, r_192_18, r_192_19, r_192_20, r_192_22, r_192_23, r_192_25, r_192_26, zrI, zrL, zrR, ne_eq, true_and, and_true, true_or, or_true, not_true_eq_false, not_false_eq_true, false_and, and_false, forall_const, true_implies, false_implies, implies_true, reduceCtorEq, Int.reduceEq, Int.reduceNe, Int.reduceLT, Int.reduceLE, Int.reduceNeg, Nat.reduceEqDiff, if_true, if_false, reduceIte, Int.reduceMul, Int.reduceAdd, Int.reduceSub]
      exact t_mCountOf hS mC (by omega) (by omega) n0 n1 (fun τ w1 w2 => q1 (by omega) (by omega) n0 n1 τ w1 w2)
    · simp only [zrI, zrL, zrR, ne_eq, true_and, and_true, true_or, or_true, not_true_eq_false, not_false_eq_true, false_and, and_false, forall_const, true_implies, false_implies, implies_true, reduceCtorEq, Int.reduceEq, Int.reduceNe, Int.reduceLT, Int.reduceLE, Int.reduceNeg, Nat.reduceEqDiff, if_true, if_false, reduceIte, Int.reduceMul, Int.reduceAdd, Int.reduceSub]
      exact q0 (Or.inr (Or.inr c))
  · simp only [zrI, zrL, zrR, ne_eq, true_and, and_true, true_or, or_true, not_true_eq_false, not_false_eq_true, false_and, and_false, forall_const, true_implies, false_implies, implies_true, reduceCtorEq, Int.reduceEq, Int.reduceNe, Int.reduceLT, Int.reduceLE, Int.reduceNeg, Nat.reduceEqDiff, if_true, if_false, reduceIte, Int.reduceMul, Int.reduceAdd, Int.reduceSub]
    exact q0 (by omega)
abbrev mnf (a : Nat) (j : Int) : Prop := mcf a j ∨ a = 209 ∨ a = 210
theorem m_counts {Q : ZQ} {σ : ZM} {L : Int → LW} {R : Int → SQ} {x l : Int} (hS : Shp σ) (mC : MCo σ L) (hR : MRowsI σ R) (hx : -2147483648 ≤ x ∧ x ≤ 2147483647) (hl : -2147483648 ≤ l ∧ l ≤ 2147483647)
    (q0 : (x < 0 ∨ 3 < x ∨ l < 0 ∨ 7 < l) → Q (zi (-2)) σ) (q1 : 0 ≤ x → x ≤ 3 → 0 ≤ l → l ≤ 7 → ∀ σ', MCo σ' L → MRowsI σ' (upR R x (cntR (L l))) → Fz mnf σ σ' → Q (zi 1) σ') : WP m_Mod_counts 0 [zr 192, zi x, zi l, zu] [] σ (0, 0) Q := by
  refine r_Mod_counts_0 ?_
  simp only [hS, zrI, zrL, zrR, Shp_wI, Shp_wJ, zR_wI, zR_wJ, zJ_wI, zI_wJ, zobj_wI, zobj_wJ, zarr_wI, zarr_wJ, zS_wI, zS_wJ, o_192, a_193, a_194, a_195, a_196, a_197, a_198, a_199, a_200, a_201, a_202, a_203, a_204, a_205, a_206, a_207, a_208, a_209, a_210, r_192_0, r_192_1, r_192_2, r_192_3, r_192_4, r_192_5, r_192_7, r_192_8, r_192_14, r_192_16, r_192_17, r_192_18, r_192_19, r_192_20, r_192_22, r_192_23, r_192_25, r_192_26, zrI, zrL, zrR, ne_eq, true_and, and_true, true_or, or_true, not_true_eq_false, not_false_eq_true, false_and, and_false, forall_const, true_implies, false_implies, implies_true, reduceCtorEq, Int.reduceEq, Int.reduceNe, Int.reduceLT, Int.reduceLE, Int.reduceNeg, Nat.reduceEqDiff, if_true, if_false, reduceIte, Int.reduceMul, Int.reduceAdd, Int.reduceSub]
  refine t_mRow hx (fun x0 x1 => ?_) (fun c => ?_)
  · simp only [zrI, zrL, zrR, ne_eq, true_and, and_true, true_or, or_true, not_true_eq_false, not_false_eq_true, false_and, and_false, forall_const, true_implies, false_implies, implies_true, reduceCtorEq, Int.reduceEq, Int.reduceNe, Int.reduceLT, Int.reduceLE, Int.reduceNeg, Nat.reduceEqDiff, if_true, if_false, reduceIte, Int.reduceMul, Int.reduceAdd, Int.reduceSub]
    refine t_inN (n := 0) (m := 7) hl (by decide) (by decide) (fun l0 l1 => ?_) (fun c => ?_)
    · have l0 : 0 ≤ l := by omega
      have l1 : l ≤ 7 := by omega
      simp only [zrI, zrL, zrR, ne_eq, true_and, and_true, true_or, or_true, not_true_eq_false, not_false_eq_true, false_and, and_false, forall_const, true_implies, false_implies, implies_true, reduceCtorEq, Int.reduceEq, Int.reduceNe, Int.reduceLT, Int.reduceLE, Int.reduceNeg, Nat.reduceEqDiff, if_true, if_false, reduceIte, Int.reduceMul, Int.reduceAdd, Int.reduceSub]
      have key : ∀ (m n : Nat) (τ : ZM), n + m = 401 → MCo τ L → (∀ i : Nat, i < n → zJ τ 210 (i : Int) = cntR (L l) i) → (4 ≤ L l 0 → 0 < n → RV0 τ 202 (cntS (L l))) → Fz (fun a j => mcf a j ∨ a = 210) σ τ → WP m_Mod_counts 25 [zr 192, zi x, zi l, zi (n : Int)] [] τ (0, 0) Q := by
        intro m
        induction m with
        | zero =>
          intro n τ hn c hv ho f
          refine r_Mod_counts_25 ?_
          simp only [f.shp hS, zrI, zrL, zrR, Shp_wI, Shp_wJ, zR_wI, zR_wJ, zJ_wI, zI_wJ, zobj_wI, zobj_wJ, zarr_wI, zarr_wJ, zS_wI, zS_wJ, o_192, a_193, a_194, a_195, a_196, a_197, a_198, a_199, a_200, a_201, a_202, a_203, a_204, a_205, a_206, a_207, a_208, a_209, a_210, r_192_0, r_192_1, r_192_2, r_192_3, r_192_4, r_192_5, r_192_7, r_192_8, r_192_14, r_192_16, r_192_17, r_192_18, r_192_19, r_192_20, r_192_22, r_192_23, r_192_25, r_192_26, zrI, zrL, zrR, ne_eq, true_and, and_true, true_or, or_true, not_true_eq_false, not_false_eq_true, false_and, and_false, forall_const, true_implies, false_implies, implies_true, reduceCtorEq, Int.reduceEq, Int.reduceNe, Int.reduceLT, Int.reduceLE, Int.reduceNeg, Nat.reduceEqDiff, if_true, if_false, reduceIte, Int.reduceMul, Int.reduceAdd, Int.reduceSub]
          refine ⟨fun _ => t_mSetRow (f.shp hS) x0 x1 (fun i hi => hv i (by omega)) (fun υ w1 w2 => ?_), fun c => by omega⟩
          refine q1 x0 x1 l0 l1 υ (w2.mco (fun a j w => by omega) c) (fun z z0 z1 => ?_) ((f.mono (fun a j w => by omega)).tr (w2.mono (fun a j w => by omega)))
          unfold upR
          by_cases e : z = x
          · rw [if_pos e, e]; exact w1
          · rw [if_neg e]
            exact fun i hi => (w2.j (by omega)).trans ((f.j (by omega)).trans (hR z z0 z1 i hi))
        | succ m ih =>
          intro n τ hn c hv ho f
          have hT := f.shp hS
          have go : ∀ (v : Int64) (υ : ZM), v = cntR (L l) n → MCo υ L → Fz mcf τ υ → (4 ≤ L l 0 → RV0 υ 202 (cntS (L l))) → WP m_Mod_counts 25 [zr 192, zi x, zi l, zi ((n : Int) + 1)] [] (wJ υ 210 (n : Int) v) (0, 0) Q := fun v υ hvv c2 f2 ho2 => by
            have f3 : Fz (fun a j => a = 210) υ (wJ υ 210 (n : Int) v) := Fz.wJ rfl
            have := ih (n + 1) (wJ υ 210 (n : Int) v) (by omega) (f3.mco (fun a j w => by omega) c2) (fun i hi => ?_) (fun h4 _ => f3.rv (fun j => by omega) (ho2 h4)) ((f.tr (f2.mono (fun a j w => Or.inl w))).tr (f3.mono (fun a j w => Or.inr w)))
            · rw [Int.natCast_succ] at this
              exact this
            · rw [zJ_wJ]
              by_cases e : i = n
              · rw [if_pos ⟨rfl, by omega⟩, e, hvv]
              · rw [if_neg (by omega), f2.j (by omega)]
                exact hv i (by omega)
          refine r_Mod_counts_25 ?_
          simp only [hT, zrI, zrL, zrR, Shp_wI, Shp_wJ, zR_wI, zR_wJ, zJ_wI, zI_wJ, zobj_wI, zobj_wJ, zarr_wI, zarr_wJ, zS_wI, zS_wJ, o_192, a_193, a_194, a_195, a_196, a_197, a_198, a_199, a_200, a_201, a_202, a_203, a_204, a_205, a_206, a_207, a_208, a_209, a_210, r_192_0, r_192_1, r_192_2, r_192_3, r_192_4, r_192_5, r_192_7, r_192_8, r_192_14, r_192_16, r_192_17, r_192_18, r_192_19, r_192_20, r_192_22, r_192_23, r_192_25, r_192_26, zrI, zrL, zrR, ne_eq, true_and, and_true, true_or, or_true, not_true_eq_false, not_false_eq_true, false_and, and_false, forall_const, true_implies, false_implies, implies_true, reduceCtorEq, Int.reduceEq, Int.reduceNe, Int.reduceLT, Int.reduceLE, Int.reduceNeg, Nat.reduceEqDiff, if_true, if_false, reduceIte, Int.reduceMul, Int.reduceAdd, Int.reduceSub]
          refine ⟨fun c => by omega, fun _ => t_mIsSize hT c.1 l0 l1 (by omega) (fun n0 n1 => ?_) (fun cc => ?_)⟩
          · simp only [hT, zrI, zrL, zrR, Shp_wI, Shp_wJ, zR_wI, zR_wJ, zJ_wI, zI_wJ, zobj_wI, zobj_wJ, zarr_wI, zarr_wJ, zS_wI, zS_wJ, o_192, a_193, a_194, a_195, a_196, a_197, a_198, a_199, a_200, a_201, a_202, a_203, a_204, a_205, a_206, a_207, a_208, a_209, a_210, r_192_0, r_192_1, r_192_2, r_192_3, r_192_4, r_192_5, r_192_7, r_192_8, r_192_14, r_192_16, r_192_17, r_192_18, r_192_19, r_192_20, r_192_22, r_192_23, r_192_25, r_192_26, zrI, zrL, zrR, ne_eq, true_and, and_true, true_or, or_true, not_true_eq_false, not_false_eq_true, false_and, and_false, forall_const, true_implies, false_implies, implies_true, reduceCtorEq, Int.reduceEq, Int.reduceNe, Int.reduceLT, Int.reduceLE, Int.reduceNeg, Nat.reduceEqDiff, if_true, if_false, reduceIte, Int.reduceMul, Int.reduceAdd, Int.reduceSub]
            have ec : cntS (L l) n = cntR (L l) n := by unfold cntR; rw [if_pos n1]
            refine r_Mod_countAt_0 ?_
            simp only [hT, zrI, zrL, zrR, Shp_wI, Shp_wJ, zR_wI, zR_wJ, zJ_wI, zI_wJ, zobj_wI, zobj_wJ, zarr_wI, zarr_wJ, zS_wI, zS_wJ, o_192, a_193, a_194, a_195, a_196, a_197, a_198, a_199, a_200, a_201, a_202, a_203, a_204, a_205, a_206, a_207, a_208, a_209, a_210, r_192_0, r_192_1, r_192_2, r_192_3, r_192_4, r_192_5, r_192_7, r_192_8, r_192_14, r_192_16, r_192_17, r_192_18, r_192_19, r_192_20, r_192_22, r_192_23, r_192_25, r_192_26, zrI, zrL, zrR, ne_eq, true_and, and_true, true_or, or_true, not_true_eq_false, not_false_eq_true, false_and, and_false, forall_const, true_implies, false_implies, implies_true, reduceCtorEq, Int.reduceEq, Int.reduceNe, Int.reduceLT, Int.reduceLE, Int.reduceNeg, Nat.reduceEqDiff, if_true, if_false, reduceIte, Int.reduceMul, Int.reduceAdd, Int.reduceSub]
            refine t_mKind hT c.1 l0 l1 ?_
            simp only [hT, zrI, zrL, zrR, Shp_wI, Shp_wJ, zR_wI, zR_wJ, zJ_wI, zI_wJ, zobj_wI, zobj_wJ, zarr_wI, zarr_wJ, zS_wI, zS_wJ, o_192, a_193, a_194, a_195, a_196, a_197, a_198, a_199, a_200, a_201, a_202, a_203, a_204, a_205, a_206, a_207, a_208, a_209, a_210, r_192_0, r_192_1, r_192_2, r_192_3, r_192_4, r_192_5, r_192_7, r_192_8, r_192_14, r_192_16, r_192_17, r_192_18, r_192_19, r_192_20, r_192_22, r_192_23, r_192_25, r_192_26, zrI, zrL, zrR, ne_eq, true_and, and_true, true_or, or_true, not_true_eq_false, not_false_eq_true, false_and, and_false, forall_const, true_implies, false_implies, implies_true, reduceCtorEq, Int.reduceEq, Int.reduceNe, Int.reduceLT, Int.reduceLE, Int.reduceNeg, Nat.reduceEqDiff, if_true, if_false, reduceIte, Int.reduceMul, Int.reduceAdd, Int.reduceSub]
            refine ⟨fun h4 => ⟨fun hn0 => ?_, fun hn0 => ?_⟩, fun h4 => ?_⟩
            · have hr := ho h4 (by omega)
              rw [hr n (by omega)]
              exact ⟨by omega, by omega, by omega, go _ τ ec c Fz.rf (fun _ => hr)⟩
            · have ok := (c.1 l l0 l1).1
              refine t_mMakeOwn hT c.1 l0 l1 (by unfold lawOK canB at ok; omega) (fun υ w1 w2 => ?_)
              have hU := w2.shp hT
              simp only [hU, w1 n (by omega), zrI, zrL, zrR, Shp_wI, Shp_wJ, zR_wI, zR_wJ, zJ_wI, zI_wJ, zobj_wI, zobj_wJ, zarr_wI, zarr_wJ, zS_wI, zS_wJ, o_192, a_193, a_194, a_195, a_196, a_197, a_198, a_199, a_200, a_201, a_202, a_203, a_204, a_205, a_206, a_207, a_208, a_209, a_210, r_192_0, r_192_1, r_192_2, r_192_3, r_192_4, r_192_5, r_192_7, r_192_8, r_192_14, r_192_16, r_192_17, r_192_18, r_192_19, r_192_20, r_192_22, r_192_23, r_192_25, r_192_26, zrI, zrL, zrR, ne_eq, true_and, and_true, true_or, or_true, not_true_eq_false, not_false_eq_true, false_and, and_false, forall_const, true_implies, false_implies, implies_true, reduceCtorEq, Int.reduceEq, Int.reduceNe, Int.reduceLT, Int.reduceLE, Int.reduceNeg, Nat.reduceEqDiff, if_true, if_false, reduceIte, Int.reduceMul, Int.reduceAdd, Int.reduceSub]
              exact ⟨by omega, by omega, by omega, go _ υ ec (w2.mco (fun a j w => by omega) c) (w2.mono (fun a j w => by omega)) (fun _ => w1)⟩
            · refine t_mCountOf hT c l0 l1 n0 n1 (fun υ w1 w2 => ?_)
              have hU := w2.shp hT
              simp only [hU, Int.toNat_natCast, zrI, zrL, zrR, Shp_wI, Shp_wJ, zR_wI, zR_wJ, zJ_wI, zI_wJ, zobj_wI, zobj_wJ, zarr_wI, zarr_wJ, zS_wI, zS_wJ, o_192, a_193, a_194, a_195, a_196, a_197, a_198, a_199, a_200, a_201, a_202, a_203, a_204, a_205, a_206, a_207, a_208, a_209, a_210, r_192_0, r_192_1, r_192_2, r_192_3, r_192_4, r_192_5, r_192_7, r_192_8, r_192_14, r_192_16, r_192_17, r_192_18, r_192_19, r_192_20, r_192_22, r_192_23, r_192_25, r_192_26, zrI, zrL, zrR, ne_eq, true_and, and_true, true_or, or_true, not_true_eq_false, not_false_eq_true, false_and, and_false, forall_const, true_implies, false_implies, implies_true, reduceCtorEq, Int.reduceEq, Int.reduceNe, Int.reduceLT, Int.reduceLE, Int.reduceNeg, Nat.reduceEqDiff, if_true, if_false, reduceIte, Int.reduceMul, Int.reduceAdd, Int.reduceSub]
              exact ⟨by omega, by omega, go _ υ ec w1 w2 (fun h => by omega)⟩
          · simp only [hT, zrI, zrL, zrR, Shp_wI, Shp_wJ, zR_wI, zR_wJ, zJ_wI, zI_wJ, zobj_wI, zobj_wJ, zarr_wI, zarr_wJ, zS_wI, zS_wJ, o_192, a_193, a_194, a_195, a_196, a_197, a_198, a_199, a_200, a_201, a_202, a_203, a_204, a_205, a_206, a_207, a_208, a_209, a_210, r_192_0, r_192_1, r_192_2, r_192_3, r_192_4, r_192_5, r_192_7, r_192_8, r_192_14, r_192_16, r_192_17, r_192_18, r_192_19, r_192_20, r_192_22, r_192_23, r_192_25, r_192_26, zrI, zrL, zrR, ne_eq, true_and, and_true, true_or, or_true, not_true_eq_false, not_false_eq_true, false_and, and_false, forall_const, true_implies, false_implies, implies_true, reduceCtorEq, Int.reduceEq, Int.reduceNe, Int.reduceLT, Int.reduceLE, Int.reduceNeg, Nat.reduceEqDiff, if_true, if_false, reduceIte, Int.reduceMul, Int.reduceAdd, Int.reduceSub]
            refine ⟨by omega, by omega, go _ τ ?_ c Fz.rf (fun h4 => ?_)⟩
            · unfold cntR
              rw [if_neg (by omega)]
            · unfold covN at cc
              rw [if_neg (by omega)] at cc
              omega
      exact key 401 0 σ (by omega) mC (fun i hi => by omega) (fun _ h => by omega) Fz.rf
    · simp only [zrI, zrL, zrR, ne_eq, true_and, and_true, true_or, or_true, not_true_eq_false, not_false_eq_true, false_and, and_false, forall_const, true_implies, false_implies, implies_true, reduceCtorEq, Int.reduceEq, Int.reduceNe, Int.reduceLT, Int.reduceLE, Int.reduceNeg, Nat.reduceEqDiff, if_true, if_false, reduceIte, Int.reduceMul, Int.reduceAdd, Int.reduceSub]
      exact q0 (by omega)
  · simp only [zrI, zrL, zrR, ne_eq, true_and, and_true, true_or, or_true, not_true_eq_false, not_false_eq_true, false_and, and_false, forall_const, true_implies, false_implies, implies_true, reduceCtorEq, Int.reduceEq, Int.reduceNe, Int.reduceLT, Int.reduceLE, Int.reduceNeg, Nat.reduceEqDiff, if_true, if_false, reduceIte, Int.reduceMul, Int.reduceAdd, Int.reduceSub]
    exact q0 (by omega)
