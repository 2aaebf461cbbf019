/-! beads of the reference -/
def MB (σ : ZM) (B : BF) : Prop := (∀ p : Nat, p < 1300 → zI σ 206 (p : Int) = if B p then 1 else 0) ∧ ∀ p, 1300 ≤ p → B p = false
theorem MB.up {σ : ZM} {p : Nat} {B : BF} {b : Bool} {x : Int} (a : MB σ B) (hx : x = if b then 1 else 0) (hp : p < 1300) : MB (wI σ 206 (p : Int) x) (upB B p b) := by
  refine ⟨fun y hy => ?_, fun y hy => ?_⟩
  · rw [zI_wI]
    unfold upB
    by_cases e : y = p
    · rw [if_pos ⟨rfl, by omega⟩, if_pos e]
      exact hx
    · rw [if_neg (by omega), if_neg e]
      exact a.1 y hy
  · unfold upB
    rw [if_neg (by omega)]
    exact a.2 y hy
abbrev btf (a : Nat) (j : Int) : Prop := a = 206 ∨ (a = 192 ∧ j = 21)
theorem Fz.mb {P : Nat → Int → Prop} {σ σ' : ZM} (f : Fz P σ σ') (hP : ∀ j, ¬ P 206 j) {B : BF} (a : MB σ B) : MB σ' B := ⟨fun p hp => by rw [f.i (hP _)]; exact a.1 p hp, a.2⟩
theorem t_toBeads {Q : ZQ} {σ : ZM} {M : Int → List Int} {s : Int} {t : Nat} (hS : Shp σ) (m : MS σ M) (s0 : 0 ≤ s) (s1 : s ≤ 10) (hp : Pt (M s)) (t0 : 2 ≤ t) (t1 : t ≤ 12) (q : ∀ σ', MB σ' (bdS (M s) t) → zI σ' 192 21 = (widN (M s).length t : Int) → Fz btf σ σ' → Q zu σ') : WP m_Mod_toBeads 0 [zr 192, zi s, zi (t : Int), zu] [] σ (0, 0) Q := by
  obtain ⟨g1, g2, g3⟩ := m s s0 s1
  have hlen := hp.len
  have h4 := hp.2.1
  have hW := widN_bd (n := (M s).length) (t := t) (by omega)
  have ew : Int.tdiv (((M s).length : Int) + (t : Int) - 1) (t : Int) * (t : Int) = (widN (M s).length t : Int) := by
    unfold widN
    rw [Int.tdiv_eq_ediv_of_nonneg (by omega), Int.natCast_mul, Int.natCast_ediv, show (((M s).length + t - 1 : Nat) : Int) = ((M s).length : Int) + (t : Int) - 1 by omega]
  have ed : 0 ≤ Int.tdiv (((M s).length : Int) + (t : Int) - 1) (t : Int) ∧ Int.tdiv (((M s).length : Int) + (t : Int) - 1) (t : Int) ≤ ((M s).length : Int) + (t : Int) - 1 := by
    rw [Int.tdiv_eq_ediv_of_nonneg (by omega)]
    exact ⟨Int.ediv_nonneg (by omega) (by omega), Int.ediv_le_self _ (by omega)⟩
  generalize hWn : widN (M s).length t = W at *
  have k42 : ∀ (g k : Nat) (u2 : PV) (τ : ZM), k + g = W → MB τ (stB (M s) W k) → zI τ 192 21 = (W : Int) → Fz btf σ τ → WP m_Mod_toBeads 42 [zr 192, zi s, u2, zi (k : Int)] [] τ (0, 0) Q := by
    intro g
    induction g with
    | zero =>
      intro k u2 τ hk a e f
      have hT := f.shp hS
      rw [show k = W by omega] at a
      refine r_Mod_toBeads_42 ?_
      simp only [hT, e, zrI, zrL, zrR, Shp_wI, Shp_wJ, zR_wI, zR_wJ, zJ_wI, zI_wJ, zobj_wI, zobj_wJ, zarr_wI, zarr_wJ, zS_wI, zS_wJ, o_192, a_193, a_194, a_195, a_196, a_197, a_198, a_199, a_200, a_201, a_202, a_203, a_204, a_205, a_206, a_207, a_208, a_209, a_210, r_192_0, r_192_1, r_192_2, r_192_3, r_192_4, r_192_5, r_192_7, r_192_8, r_192_14, r_192_16, r_192_17, r_192_18, r_192_19, r_192_20, r_192_22, r_192_23, r_192_25, r_192_26, zrI, zrL, zrR, ne_eq, true_and, and_true, true_or, or_true, not_true_eq_false, not_false_eq_true, false_and, and_false, forall_const, true_implies, false_implies, implies_true, reduceCtorEq, Int.reduceEq, Int.reduceNe, Int.reduceLT, Int.reduceLE, Int.reduceNeg, Nat.reduceEqDiff, if_true, if_false, reduceIte, Int.reduceMul, Int.reduceAdd, Int.reduceSub]
      exact ⟨fun _ => q τ (by unfold bdS; rw [hWn]; exact a) e f, fun c => by omega⟩
    | succ g ih =>
      intro k u2 τ hk a e f
      have hT := f.shp hS
      have mT := f.ms (fun j => by omega) (fun j => by omega) m
      have hr := hp.rng (k : Int)
      have hb := fB_bd hp (show k < W by omega)
      have hf : ga (M s) (k : Int) + (W : Int) - 1 - (k : Int) = (fB (M s) W k : Int) := by unfold fB; omega
      refine r_Mod_toBeads_42 ?_
      simp only [hT, e, zrI, zrL, zrR, Shp_wI, Shp_wJ, zR_wI, zR_wJ, zJ_wI, zI_wJ, zobj_wI, zobj_wJ, zarr_wI, zarr_wJ, zS_wI, zS_wJ, o_192, a_193, a_194, a_195, a_196, a_197, a_198, a_199, a_200, a_201, a_202, a_203, a_204, a_205, a_206, a_207, a_208, a_209, a_210, r_192_0, r_192_1, r_192_2, r_192_3, r_192_4, r_192_5, r_192_7, r_192_8, r_192_14, r_192_16, r_192_17, r_192_18, r_192_19, r_192_20, r_192_22, r_192_23, r_192_25, r_192_26, zrI, zrL, zrR, ne_eq, true_and, and_true, true_or, or_true, not_true_eq_false, not_false_eq_true, false_and, and_false, forall_const, true_implies, false_implies, implies_true, reduceCtorEq, Int.reduceEq, Int.reduceNe, Int.reduceLT, Int.reduceLE, Int.reduceNeg, Nat.reduceEqDiff, if_true, if_false, reduceIte, Int.reduceMul, Int.reduceAdd, Int.reduceSub]
      refine ⟨fun c => by omega, fun _ => t_mAt hT mT s0 s1 (by omega) ?_⟩
      simp only [hT, e, hf, zrI, zrL, zrR, Shp_wI, Shp_wJ, zR_wI, zR_wJ, zJ_wI, zI_wJ, zobj_wI, zobj_wJ, zarr_wI, zarr_wJ, zS_wI, zS_wJ, o_192, a_193, a_194, a_195, a_196, a_197, a_198, a_199, a_200, a_201, a_202, a_203, a_204, a_205, a_206, a_207, a_208, a_209, a_210, r_192_0, r_192_1, r_192_2, r_192_3, r_192_4, r_192_5, r_192_7, r_192_8, r_192_14, r_192_16, r_192_17, r_192_18, r_192_19, r_192_20, r_192_22, r_192_23, r_192_25, r_192_26, zrI, zrL, zrR, ne_eq, true_and, and_true, true_or, or_true, not_true_eq_false, not_false_eq_true, false_and, and_false, forall_const, true_implies, false_implies, implies_true, reduceCtorEq, Int.reduceEq, Int.reduceNe, Int.reduceLT, Int.reduceLE, Int.reduceNeg, Nat.reduceEqDiff, if_true, if_false, reduceIte, Int.reduceMul, Int.reduceAdd, Int.reduceSub]
      refine ⟨by omega, by omega, by omega, by omega, by omega, ?_⟩
      have := ih (k + 1) (zkill u2) _ (by omega) (a.up (b := true) (x := 1) rfl (show fB (M s) W k < 1300 by omega)) (by rw [zI_wI, if_neg (by omega)]; exact e) (f.tr (Fz.wI (Or.inl rfl)))
      rw [Int.natCast_succ] at this
      exact this
  have k20 : ∀ (g k : Nat) (u2 : PV) (τ : ZM), k + g = 1300 → (∀ p : Nat, p < k → zI τ 206 (p : Int) = 0) → zI τ 192 21 = (W : Int) → Fz btf σ τ → WP m_Mod_toBeads 20 [zr 192, zi s, u2, zi (k : Int)] [] τ (0, 0) Q := by
    intro g
    induction g with
    | zero =>
      intro k u2 τ hk a e f
      refine r_Mod_toBeads_20 ⟨fun _ => k42 W 0 (zkill u2) τ (by omega) ⟨fun p hp => ?_, fun p hp => rfl⟩ e f, fun c => by omega⟩
      rw [a p (by omega)]
      rfl
    | succ g ih =>
      intro k u2 τ hk a e f
      have hT := f.shp hS
      refine r_Mod_toBeads_20 ?_
      simp only [hT, zrI, zrL, zrR, Shp_wI, Shp_wJ, zR_wI, zR_wJ, zJ_wI, zI_wJ, zobj_wI, zobj_wJ, zarr_wI, zarr_wJ, zS_wI, zS_wJ, o_192, a_193, a_194, a_195, a_196, a_197, a_198, a_199, a_200, a_201, a_202, a_203, a_204, a_205, a_206, a_207, a_208, a_209, a_210, r_192_0, r_192_1, r_192_2, r_192_3, r_192_4, r_192_5, r_192_7, r_192_8, r_192_14, r_192_16, r_192_17, r_192_18, r_192_19, r_192_20, r_192_22, r_192_23, r_192_25, r_192_26, zrI, zrL, zrR, ne_eq, true_and, and_true, true_or, or_true, not_true_eq_false, not_false_eq_true, false_and, and_false, forall_const, true_implies, false_implies, implies_true, reduceCtorEq, Int.reduceEq, Int.reduceNe, Int.reduceLT, Int.reduceLE, Int.reduceNeg, Nat.reduceEqDiff, if_true, if_false, reduceIte, Int.reduceMul, Int.reduceAdd, Int.reduceSub]
      refine ⟨fun c => by omega, fun _ => ⟨by omega, by omega, ?_⟩⟩
      have := ih (k + 1) (zkill u2) (wI τ 206 (k : Int) 0) (by omega) (fun p hp => by
        rw [zI_wI]
        split
        · rfl
        · exact a p (by omega)) (by rw [zI_wI, if_neg (by omega)]; exact e) (f.tr (Fz.wI (Or.inl rfl)))
      rw [Int.natCast_succ] at this
      exact this
  refine r_Mod_toBeads_0 ?_
  simp only [hS, g1, ew, zrI, zrL, zrR, Shp_wI, Shp_wJ, zR_wI, zR_wJ, zJ_wI, zI_wJ, zobj_wI, zobj_wJ, zarr_wI, zarr_wJ, zS_wI, zS_wJ, o_192, a_193, a_194, a_195, a_196, a_197, a_198, a_199, a_200, a_201, a_202, a_203, a_204, a_205, a_206, a_207, a_208, a_209, a_210, r_192_0, r_192_1, r_192_2, r_192_3, r_192_4, r_192_5, r_192_7, r_192_8, r_192_14, r_192_16, r_192_17, r_192_18, r_192_19, r_192_20, r_192_22, r_192_23, r_192_25, r_192_26, zrI, zrL, zrR, ne_eq, true_and, and_true, true_or, or_true, not_true_eq_false, not_false_eq_true, false_and, and_false, forall_const, true_implies, false_implies, implies_true, reduceCtorEq, Int.reduceEq, Int.reduceNe, Int.reduceLT, Int.reduceLE, Int.reduceNeg, Nat.reduceEqDiff, if_true, if_false, reduceIte, Int.reduceMul, Int.reduceAdd, Int.reduceSub]
  refine ⟨by omega, by omega, by omega, by omega, by omega, by omega, ?_⟩
  exact k20 1300 0 _ _ (by omega) (fun p hp => by omega) (by rw [zI_wI, if_pos ⟨rfl, rfl⟩]) (Fz.wI (Or.inr ⟨rfl, rfl⟩))
theorem t_fromBeads {Q : ZQ} {σ : ZM} {M : Int → List Int} {B : BF} (hS : Shp σ) (m : MS σ M) (a : MB σ B) (he : eB B 1300 ≤ 400) (q : ∀ σ', MS σ' (upS M 8 (rdL B 1300)) → Fr mfr σ σ' → Q zu σ') : WP m_Mod_fromBeads 0 [zr 192, zu, zu] [] σ (0, 0) Q := by
  have hPt := rdL_Pt he
  have k44 : ∀ (g : Nat) (x : Int) (acc : List Int) (τ : ZM), x + 1 = g → g ≤ 1300 → acc ++ rdL B g = rdL B 1300 → MS τ (upS M 8 acc) → Fr mfr σ τ → WP m_Mod_fromBeads 44 [zr 192, zi ((g - cB B g : Nat) : Int), zi x] [] τ (0, 0) Q := by
    intro g
    induction g with
    | zero =>
      intro x acc τ hx hg hacc mT f
      have e : acc ++ [] = rdL B 1300 := hacc
      rw [List.append_nil] at e
      rw [e] at mT
      exact r_Mod_fromBeads_44 ⟨fun _ => q τ mT f, fun c => by omega⟩
    | succ g ih =>
      intro x acc τ hx hg hacc mT f
      have hT := f.shp hS
      have ex : x = (g : Int) := by omega
      subst ex
      have hv : zI τ 206 (g : Int) = if B g then 1 else 0 := by rw [(f.2.2.2 206 (by omega)).1]; exact a.1 g (by omega)
      have hc := cB_le B g
      have ec : cB B (g + 1) = cB B g + (if B g then 1 else 0) := rfl
      have er : rdL B (g + 1) = if B g = true ∧ cB B g < g then ((g - cB B g : Nat) : Int) :: rdL B g else rdL B g := rfl
      refine r_Mod_fromBeads_44 ?_
      simp only [hT, hv, zrI, zrL, zrR, Shp_wI, Shp_wJ, zR_wI, zR_wJ, zJ_wI, zI_wJ, zobj_wI, zobj_wJ, zarr_wI, zarr_wJ, zS_wI, zS_wJ, o_192, a_193, a_194, a_195, a_196, a_197, a_198, a_199, a_200, a_201, a_202, a_203, a_204, a_205, a_206, a_207, a_208, a_209, a_210, r_192_0, r_192_1, r_192_2, r_192_3, r_192_4, r_192_5, r_192_7, r_192_8, r_192_14, r_192_16, r_192_17, r_192_18, r_192_19, r_192_20, r_192_22, r_192_23, r_192_25, r_192_26, zrI, zrL, zrR, ne_eq, true_and, and_true, true_or, or_true, not_true_eq_false, not_false_eq_true, false_and, and_false, forall_const, true_implies, false_implies, implies_true, reduceCtorEq, Int.reduceEq, Int.reduceNe, Int.reduceLT, Int.reduceLE, Int.reduceNeg, Nat.reduceEqDiff, if_true, if_false, reduceIte, Int.reduceMul, Int.reduceAdd, Int.reduceSub]
      rw [ec]
      by_cases hb : B g = true
      · rw [if_pos hb, if_pos hb]
        simp only [zrI, zrL, zrR, ne_eq, true_and, and_true, true_or, or_true, not_true_eq_false, not_false_eq_true, false_and, and_false, forall_const, true_implies, false_implies, implies_true, reduceCtorEq, Int.reduceEq, Int.reduceNe, Int.reduceLT, Int.reduceLE, Int.reduceNeg, Nat.reduceEqDiff, if_true, if_false, reduceIte, Int.reduceMul, Int.reduceAdd, Int.reduceSub]
        rw [show g + 1 - (cB B g + 1) = g - cB B g by omega]
        by_cases h0 : cB B g < g
        · rw [er, if_pos ⟨hb, h0⟩] at hacc
          have hlen := hPt.len
          have h4 := hPt.2.1
          have hlen2 : (rdL B 1300).length = acc.length + ((rdL B g).length + 1) := by rw [← hacc]; simp
          refine ⟨fun c => by omega, fun _ => ⟨by omega, fun c => by omega, fun _ => t_mPush' hT mT (by omega) (by omega) (by omega) (fun υ j1 j2 => ⟨by omega, ?_⟩)⟩⟩
          refine ih _ (acc ++ [((g - cB B g : Nat) : Int)]) υ (by omega) (by omega) ?_ j1 (f.tr j2)
          rw [← hacc]
          simp
        · rw [er, if_neg (fun w => h0 w.2)] at hacc
          exact ⟨fun c => by omega, fun _ => ⟨by omega, fun _ => ⟨by omega, ih _ acc τ (by omega) (by omega) hacc mT f⟩, fun c => by omega⟩⟩
      · rw [if_neg hb, if_neg hb]
        simp only [zrI, zrL, zrR, ne_eq, true_and, and_true, true_or, or_true, not_true_eq_false, not_false_eq_true, false_and, and_false, forall_const, true_implies, false_implies, implies_true, reduceCtorEq, Int.reduceEq, Int.reduceNe, Int.reduceLT, Int.reduceLE, Int.reduceNeg, Nat.reduceEqDiff, if_true, if_false, reduceIte, Int.reduceMul, Int.reduceAdd, Int.reduceSub]
        rw [er, if_neg (fun w => hb w.1)] at hacc
        refine ⟨fun c => by omega, fun _ => ⟨by omega, by omega, by omega, ?_⟩⟩
        rw [show ((g + 1 - (cB B g + 0) : Nat) : Int) + -1 = ((g - cB B g : Nat) : Int) by omega]
        exact ih _ acc τ (by omega) (by omega) hacc mT f
  have k10 : ∀ (g k : Nat) (τ : ZM), k + g = 1300 → MS τ (upS M 8 []) → Fr mfr σ τ → WP m_Mod_fromBeads 10 [zr 192, zi ((k - cB B k : Nat) : Int), zi (k : Int)] [] τ (0, 0) Q := by
    intro g
    induction g with
    | zero =>
      intro k τ hk mT f
      rw [show k = 1300 by omega]
      exact r_Mod_fromBeads_10 ⟨fun _ => k44 1300 1299 [] τ (by omega) (by omega) (by simp) mT f, fun c => by omega⟩
    | succ g ih =>
      intro k τ hk mT f
      have hT := f.shp hS
      have hv : zI τ 206 (k : Int) = if B k then 1 else 0 := by rw [(f.2.2.2 206 (by omega)).1]; exact a.1 k (by omega)
      have hc := cB_le B k
      have ec : cB B (k + 1) = cB B k + (if B k then 1 else 0) := rfl
      have ihi := ih (k + 1) τ (by omega) mT f
      rw [ec, Int.natCast_succ] at ihi
      refine r_Mod_fromBeads_10 ?_
      simp only [hT, hv, zrI, zrL, zrR, Shp_wI, Shp_wJ, zR_wI, zR_wJ, zJ_wI, zI_wJ, zobj_wI, zobj_wJ, zarr_wI, zarr_wJ, zS_wI, zS_wJ, o_192, a_193, a_194, a_195, a_196, a_197, a_198, a_199, a_200, a_201, a_202, a_203, a_204, a_205, a_206, a_207, a_208, a_209, a_210, r_192_0, r_192_1, r_192_2, r_192_3, r_192_4, r_192_5, r_192_7, r_192_8, r_192_14, r_192_16, r_192_17, r_192_18, r_192_19, r_192_20, r_192_22, r_192_23, r_192_25, r_192_26, zrI, zrL, zrR, ne_eq, true_and, and_true, true_or, or_true, not_true_eq_false, not_false_eq_true, false_and, and_false, forall_const, true_implies, false_implies, implies_true, reduceCtorEq, Int.reduceEq, Int.reduceNe, Int.reduceLT, Int.reduceLE, Int.reduceNeg, Nat.reduceEqDiff, if_true, if_false, reduceIte, Int.reduceMul, Int.reduceAdd, Int.reduceSub]
      by_cases hb : B k = true
      · rw [if_pos hb] at ihi
        rw [if_pos hb]
        simp only [zrI, zrL, zrR, ne_eq, true_and, and_true, true_or, or_true, not_true_eq_false, not_false_eq_true, false_and, and_false, forall_const, true_implies, false_implies, implies_true, reduceCtorEq, Int.reduceEq, Int.reduceNe, Int.reduceLT, Int.reduceLE, Int.reduceNeg, Nat.reduceEqDiff, if_true, if_false, reduceIte, Int.reduceMul, Int.reduceAdd, Int.reduceSub]
        refine ⟨fun c => by omega, fun _ => ⟨by omega, by omega, by omega, ?_⟩⟩
        rw [show ((k - cB B k : Nat) : Int) + 0 = ((k + 1 - (cB B k + 1) : Nat) : Int) by omega]
        exact ihi
      · rw [if_neg hb] at ihi
        rw [if_neg hb]
        simp only [zrI, zrL, zrR, ne_eq, true_and, and_true, true_or, or_true, not_true_eq_false, not_false_eq_true, false_and, and_false, forall_const, true_implies, false_implies, implies_true, reduceCtorEq, Int.reduceEq, Int.reduceNe, Int.reduceLT, Int.reduceLE, Int.reduceNeg, Nat.reduceEqDiff, if_true, if_false, reduceIte, Int.reduceMul, Int.reduceAdd, Int.reduceSub]
        refine ⟨fun c => by omega, fun _ => ⟨by omega, by omega, by omega, ?_⟩⟩
        rw [show ((k - cB B k : Nat) : Int) + 1 = ((k + 1 - (cB B k + 0) : Nat) : Int) by omega]
        exact ihi
  refine r_Mod_fromBeads_0 ?_
  simp only [hS, zrI, zrL, zrR, Shp_wI, Shp_wJ, zR_wI, zR_wJ, zJ_wI, zI_wJ, zobj_wI, zobj_wJ, zarr_wI, zarr_wJ, zS_wI, zS_wJ, o_192, a_193, a_194, a_195, a_196, a_197, a_198, a_199, a_200, a_201, a_202, a_203, a_204, a_205, a_206, a_207, a_208, a_209, a_210, r_192_0, r_192_1, r_192_2, r_192_3, r_192_4, r_192_5, r_192_7, r_192_8, r_192_14, r_192_16, r_192_17, r_192_18, r_192_19, r_192_20, r_192_22, r_192_23, r_192_25, r_192_26, zrI, zrL, zrR, ne_eq, true_and, and_true, true_or, or_true, not_true_eq_false, not_false_eq_true, false_and, and_false, forall_const, true_implies, false_implies, implies_true, reduceCtorEq, Int.reduceEq, Int.reduceNe, Int.reduceLT, Int.reduceLE, Int.reduceNeg, Nat.reduceEqDiff, if_true, if_false, reduceIte, Int.reduceMul, Int.reduceAdd, Int.reduceSub]
  exact t_mEmpty hS m (by omega) (by omega) (fun τ w1 w2 => k10 1300 0 τ (by omega) w1 w2)
