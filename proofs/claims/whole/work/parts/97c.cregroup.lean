/-! lead 1, class: regroup -/
theorem mul_bd12 {x y : Int} (x0 : 0 ≤ x) (x1 : x ≤ 12) (y0 : 0 ≤ y) (y1 : y ≤ 400) : 0 ≤ x * y ∧ x * y ≤ 4800 := by
  have h1 := Int.mul_nonneg x0 y0
  have h2 : x * y ≤ 12 * y := Int.mul_le_mul_of_nonneg_right x1 y0
  omega
theorem div_pos {v x : Int} (v0 : 1 ≤ v) (x0 : 2 ≤ x) (h : v % x = 0) : 1 ≤ v / x := by
  have h1 := div_lt v0 x0
  have h2 := Int.mul_ediv_add_emod v x
  rcases Int.lt_or_le 0 (v / x) with w | w
  · omega
  · rw [show v / x = 0 by omega, Int.mul_zero] at h2
    omega
theorem t_cut {Q : ZQ} {σ : ZM} {f : Int → Int} {x : Int} (hS : Shp σ) (ho : Oc σ 147 f) (hf : OcP f) (x0 : 2 ≤ x) (x1 : x ≤ 12) (q : ∀ σ', Oc σ' 147 (cutF x f 400) → Fr (fun a => a = 147) σ σ' → Q zu σ') : WP m_Leads_cutMultiples 0 [zr 146, zi x, zu] [] σ (0, 0) Q := by
  have k4 : ∀ (g k : Nat) (τ : ZM), k + g = 400 → Oc τ 147 (cutF x f k) → Fr (fun a => a = 147) σ τ → WP m_Leads_cutMultiples 4 [zr 146, zi x, zi (400 - (k : Int))] [] τ (0, 0) Q := by
    intro g
    induction g with
    | zero =>
      intro k τ hk hT f1
      rw [show k = 400 by omega] at hT
      exact r_Leads_cutMultiples_4 ⟨fun _ => q τ hT f1, fun c => by omega⟩
    | succ g ih =>
      intro k τ hk hT f1
      have hTs := f1.shp hS
      have hF := cutF_OcP hf x0 k (by omega)
      have e1 : Int.tmod (400 - (k : Int)) x = (400 - (k : Int)) % x := Int.tmod_eq_emod_of_nonneg (by omega)
      have e2 : Int.tdiv (400 - (k : Int)) x = (400 - (k : Int)) / x := Int.tdiv_eq_ediv_of_nonneg (by omega)
      have hd := div_lt (v := 400 - (k : Int)) (x := x) (by omega) x0
      have v1 := hT (400 - (k : Int)) (by omega) (by omega)
      have v2 := hT ((400 - (k : Int)) / x) (by omega) (by omega)
      have hFv := hF.le (v := 400 - (k : Int)) (by omega) (by omega)
      have hm := mul_bd12 (x := x) (by omega) x1 hFv.1 hFv.2
      refine r_Leads_cutMultiples_4 ?_
      simp only [hTs, e1, e2, v1, v2, zrI, zrL, zrR, Shp_wI, Shp_wJ, zR_wI, zR_wJ, zJ_wI, zI_wJ, zobj_wI, zobj_wJ, zarr_wI, zarr_wJ, zS_wI, zS_wJ, o_2, a_3, a_4, a_5, o_10, a_11, a_12, o_137, o_138, a_139, o_140, a_141, o_142, a_143, o_146, a_147, a_148, a_149, o_152, a_153, o_154, a_157, o_158, a_159, r_2_0, r_2_1, r_2_2, r_2_3, r_2_4, r_2_5, r_2_6, r_2_7, r_2_8, r_2_9, r_2_10, r_10_0, r_10_1, r_137_0, r_137_1, r_137_2, r_138_0, r_140_0, r_142_0, r_146_0, r_146_1, r_146_2, r_146_3, r_152_0, r_154_0, r_154_1, r_158_0, zrI, zrL, zrR, ne_eq, true_and, and_true, true_or, or_true, not_true_eq_false, not_false_eq_true, false_and, and_false, forall_const, true_implies, false_implies, implies_true, reduceCtorEq, Int.reduceEq, Int.reduceNe, Int.reduceLT, Int.reduceLE, Int.reduceNeg, Nat.reduceEqDiff, if_true, if_false, reduceIte, Int.reduceMul, Int.reduceAdd, Int.reduceSub]
      have ec : cutF x f (k + 1) = cutS x (cutF x f k) (400 - (k : Int)) := rfl
      refine ⟨fun c => by omega, fun _ => ⟨by omega, by omega, fun c => ⟨by omega, ?_⟩, fun c => ?_⟩⟩
      · have := ih (k + 1) τ (by omega) (by rw [ec]; unfold cutS; rw [if_neg c]; exact hT) f1
        rw [show 400 - ((k + 1 : Nat) : Int) = 400 - (k : Int) + -1 by omega] at this
        exact this
      · have hp1 := div_pos (by omega) x0 c
        have hFd := hF.le (v := (400 - (k : Int)) / x) (by omega) (by omega)
        have := ih (k + 1) (wI (wI τ 147 ((400 - (k : Int)) / x) (cutF x f k ((400 - (k : Int)) / x) + x * cutF x f k (400 - (k : Int)))) 147 (400 - (k : Int)) 0) (by omega) (by rw [ec]; unfold cutS; rw [if_pos c]; exact (hT.w _ _).w _ _) ((f1.tr (Fr.wI rfl)).tr (Fr.wI rfl))
        rw [show 400 - ((k + 1 : Nat) : Int) = 400 - (k : Int) + -1 by omega] at this
        repeat' first | omega | exact Or.inl (by omega) | apply And.intro | refine fun (_ : _ ≤ _) => ?_ | refine fun (_ : _ < _) => ?_ | refine fun (_ : _ = _) => ?_ | refine fun (_ : ¬ (_ = _)) => ?_ | refine fun (_ : _ ∨ _) => ?_
        all_goals exact this
  exact r_Leads_cutMultiples_0 (k4 400 0 σ (by omega) ho Fr.rf)
theorem t_putT {Q : ZQ} {σ : ZM} {f : Int → Int} {x : Int} (hS : Shp σ) (ho : Oc σ 147 f) (hf : OcP f) (x0 : 2 ≤ x) (x1 : x ≤ 12) (q : ∀ σ', Oc σ' 147 (gthF x f 400) → Fr (fun a => a = 147) σ σ' → Q zu σ') : WP m_Leads_putLikeTogether 0 [zr 146, zi x, zu] [] σ (0, 0) Q := by
  have k2 : ∀ (g k : Nat) (τ : ZM), k + g = 400 → Oc τ 147 (gthF x f k) → Fr (fun a => a = 147) σ τ → WP m_Leads_putLikeTogether 2 [zr 146, zi x, zi ((k : Int) + 1)] [] τ (0, 0) Q := by
    intro g
    induction g with
    | zero =>
      intro k τ hk hT f1
      have hx : ((k : Int) + 1) * 2 ≤ ((k : Int) + 1) * x := Int.mul_le_mul_of_nonneg_left x0 (by omega)
      have hx2 : ((k : Int) + 1) * x ≤ ((k : Int) + 1) * 12 := Int.mul_le_mul_of_nonneg_left x1 (by omega)
      rw [show k = 400 by omega] at hT
      exact r_Leads_putLikeTogether_2 ⟨by omega, fun _ => q τ hT f1, fun c => by omega⟩
    | succ g ih =>
      intro k τ hk hT f1
      have hTs := f1.shp hS
      have hF := gthF_OcP hf x0 k (by omega)
      have hx : ((k : Int) + 1) * 2 ≤ ((k : Int) + 1) * x := Int.mul_le_mul_of_nonneg_left x0 (by omega)
      have hx2 : ((k : Int) + 1) * x ≤ ((k : Int) + 1) * 12 := Int.mul_le_mul_of_nonneg_left x1 (by omega)
      have v1 := hT ((k : Int) + 1) (by omega) (by omega)
      have hFv := hF.le (v := (k : Int) + 1) (by omega) (by omega)
      have e1 : Int.tmod (gthF x f k ((k : Int) + 1)) x = gthF x f k ((k : Int) + 1) % x := Int.tmod_eq_emod_of_nonneg hFv.1
      have e2 : Int.tdiv (gthF x f k ((k : Int) + 1)) x = gthF x f k ((k : Int) + 1) / x := Int.tdiv_eq_ediv_of_nonneg hFv.1
      have d0 : 0 ≤ gthF x f k ((k : Int) + 1) / x := Int.ediv_nonneg hFv.1 (by omega)
      have d1 : gthF x f k ((k : Int) + 1) / x ≤ gthF x f k ((k : Int) + 1) := Int.ediv_le_self _ hFv.1
      refine r_Leads_putLikeTogether_2 ?_
      by_cases c : ((k : Int) + 1) * x ≤ 400
      · have v2 := hT (((k : Int) + 1) * x) (by omega) c
        have hFd := hF.le (v := ((k : Int) + 1) * x) (by omega) c
        have ec : gthF x f (k + 1) = gthS x (gthF x f k) ((k : Int) + 1) := by
          show (if ((k : Int) + 1) * x ≤ 400 then gthS x (gthF x f k) ((k : Int) + 1) else gthF x f k) = _
          rw [if_pos c]
        have v3 : zI (wI τ 147 (((k : Int) + 1) * x) (gthF x f k (((k : Int) + 1) * x) + gthF x f k ((k : Int) + 1) / x)) 147 ((k : Int) + 1) = gthF x f k ((k : Int) + 1) := by
          rw [zI_wI, if_neg (by omega)]
          exact v1
        have := ih (k + 1) (wI (wI τ 147 (((k : Int) + 1) * x) (gthF x f k (((k : Int) + 1) * x) + gthF x f k ((k : Int) + 1) / x)) 147 ((k : Int) + 1) (gthF x f k ((k : Int) + 1) % x)) (by omega) (by rw [ec]; exact (hT.w _ _).w _ _) ((f1.tr (Fr.wI rfl)).tr (Fr.wI rfl))
        rw [show ((k + 1 : Nat) : Int) + 1 = (k : Int) + 1 + 1 by omega] at this
        simp only [hTs, e1, e2, v1, v2, v3, zrI, zrL, zrR, Shp_wI, Shp_wJ, zR_wI, zR_wJ, zJ_wI, zI_wJ, zobj_wI, zobj_wJ, zarr_wI, zarr_wJ, zS_wI, zS_wJ, o_2, a_3, a_4, a_5, o_10, a_11, a_12, o_137, o_138, a_139, o_140, a_141, o_142, a_143, o_146, a_147, a_148, a_149, o_152, a_153, o_154, a_157, o_158, a_159, r_2_0, r_2_1, r_2_2, r_2_3, r_2_4, r_2_5, r_2_6, r_2_7, r_2_8, r_2_9, r_2_10, r_10_0, r_10_1, r_137_0, r_137_1, r_137_2, r_138_0, r_140_0, r_142_0, r_146_0, r_146_1, r_146_2, r_146_3, r_152_0, r_154_0, r_154_1, r_158_0, zrI, zrL, zrR, ne_eq, true_and, and_true, true_or, or_true, not_true_eq_false, not_false_eq_true, false_and, and_false, forall_const, true_implies, false_implies, implies_true, reduceCtorEq, Int.reduceEq, Int.reduceNe, Int.reduceLT, Int.reduceLE, Int.reduceNeg, Nat.reduceEqDiff, if_true, if_false, reduceIte, Int.reduceMul, Int.reduceAdd, Int.reduceSub]
        refine ⟨by omega, fun w => by omega, fun _ => ?_⟩
        repeat' first | omega | exact Or.inl (by omega) | apply And.intro | refine fun (_ : _ ≤ _) => ?_ | refine fun (_ : _ < _) => ?_ | refine fun (_ : _ = _) => ?_ | refine fun (_ : ¬ (_ = _)) => ?_ | refine fun (_ : _ ∨ _) => ?_
        all_goals exact this
      · refine ⟨by omega, fun _ => q τ ?_ f1, fun w => absurd w c⟩
        have := gthF_stop (x := x) (f := f) (k := k) x0 (by omega) (400 - k)
        rw [show k + (400 - k) = 400 by omega] at this
        rw [this]
        exact hT
  exact r_Leads_putLikeTogether_0 (k2 400 0 σ (by omega) ho Fr.rf)
abbrev rgf (h : Nat) (a : Nat) : Prop := a = 147 ∨ two h a
theorem t_regroup {Q : ZQ} {σ : ZM} {g h : Nat} {l : List Int} {x b : Int} (hS : Shp σ) (hg : isS g) (hh : isS h) (hd : h ≠ g ∧ h ≠ g + 1 ∧ h + 1 ≠ g) (hd7 : 147 ≠ g ∧ 147 ≠ g + 1 ∧ h ≠ 147 ∧ h + 1 ≠ 147) (hl : Lz σ g l) (hp : Pt l) (x0 : 2 ≤ x) (x1 : x ≤ 12) (q : ∀ σ', Lz σ' h (oL (if b = 0 then gthF x (cnO l l.length) 400 else cutF x (cnO l l.length) 400) 400) → Fr (rgf h) σ σ' → Q zu σ') : WP m_Leads_regroup 0 [zr 146, zi x, zi b, zr g, zr h, zu, zu] [] σ (0, 0) Q := by
  have hlen := hp.len
  have h4 := hp.2.1
  have hl1 := hl.1
  have k93 : ∀ (f : Int → Int), OcP f → (∀ σ', Lz σ' h (oL f 400) → Fr (rgf h) σ σ' → Q zu σ') → ∀ (e k : Nat) (u1 u2 u3 u6 : PV) (τ : ZM), k + e = 400 → Oc τ 147 f → Lz τ h (oL f k) → Fr (rgf h) σ τ → WP m_Leads_regroup 93 [zr 146, u1, u2, u3, zr h, zi (400 - (k : Int)), u6] [] τ (0, 0) Q := by
    intro f hf q e
    induction e with
    | zero =>
      intro k u1 u2 u3 u6 τ hk ho hT f1
      rw [show k = 400 by omega] at hT
      exact r_Leads_regroup_93 ⟨fun _ => q τ hT f1, fun c => by omega⟩
    | succ e ih =>
      intro k u1 u2 u3 u6 τ hk ho hT f1
      refine r_Leads_regroup_93 ⟨fun c => by omega, fun _ => ?_⟩
      have hFv := hf.le (v := 400 - (k : Int)) (by omega) (by omega)
      have hb := oL_bd hf (k + 1) (by omega)
      have hPt := (oL_Pt' hf (k + 1) (by omega)).1
      have eo : oL f (k + 1) = oL f k ++ List.replicate (f (400 - (k : Int))).toNat (400 - (k : Int)) := rfl
      rw [eo, List.sum_append, List.sum_replicate_int] at hb
      have hsn := (oL_Pt' hf k (by omega)).1
      have hs0 := sum_pos _ hsn.1
      have hN0 : 0 ≤ (((f (400 - (k : Int))).toNat : Nat) : Int) * (400 - (k : Int)) := Int.mul_nonneg (by omega) (by omega)
      have k101 : ∀ (m i : Nat) (υ : ZM), (i : Int) + m = f (400 - (k : Int)) → Oc υ 147 f → Lz υ h (oL f k ++ List.replicate i (400 - (k : Int))) → Fr (rgf h) σ υ → WP m_Leads_regroup 101 [zr 146, u1, u2, u3, zr h, zi (400 - (k : Int)), zi (i : Int)] [] υ (0, 0) Q := by
        intro m
        induction m with
        | zero =>
          intro i υ hi ho hT f1
          have hTs := f1.shp hS
          have v1 := ho (400 - (k : Int)) (by omega) (by omega)
          refine r_Leads_regroup_101 ?_
          simp only [hTs, v1, zrI, zrL, zrR, Shp_wI, Shp_wJ, zR_wI, zR_wJ, zJ_wI, zI_wJ, zobj_wI, zobj_wJ, zarr_wI, zarr_wJ, zS_wI, zS_wJ, o_2, a_3, a_4, a_5, o_10, a_11, a_12, o_137, o_138, a_139, o_140, a_141, o_142, a_143, o_146, a_147, a_148, a_149, o_152, a_153, o_154, a_157, o_158, a_159, r_2_0, r_2_1, r_2_2, r_2_3, r_2_4, r_2_5, r_2_6, r_2_7, r_2_8, r_2_9, r_2_10, r_10_0, r_10_1, r_137_0, r_137_1, r_137_2, r_138_0, r_140_0, r_142_0, r_146_0, r_146_1, r_146_2, r_146_3, r_152_0, r_154_0, r_154_1, r_158_0, zrI, zrL, zrR, ne_eq, true_and, and_true, true_or, or_true, not_true_eq_false, not_false_eq_true, false_and, and_false, forall_const, true_implies, false_implies, implies_true, reduceCtorEq, Int.reduceEq, Int.reduceNe, Int.reduceLT, Int.reduceLE, Int.reduceNeg, Nat.reduceEqDiff, if_true, if_false, reduceIte, Int.reduceMul, Int.reduceAdd, Int.reduceSub]
          have := ih (k + 1) u1 u2 u3 (zi (i : Int)) υ (by omega) ho (by rw [eo, show (f (400 - (k : Int))).toNat = i by omega]; exact hT) f1
          rw [show 400 - ((k + 1 : Nat) : Int) = 400 - (k : Int) + -1 by omega] at this
          refine ⟨by omega, fun _ => ⟨by omega, this⟩, fun c => by omega⟩
        | succ m ihm =>
          intro i υ hi ho hT f1
          have hTs := f1.shp hS
          have v1 := ho (400 - (k : Int)) (by omega) (by omega)
          have oh := hTs.sumO hh
          refine r_Leads_regroup_101 ?_
          simp only [hTs, v1, oh.1, zrI, zrL, zrR, Shp_wI, Shp_wJ, zR_wI, zR_wJ, zJ_wI, zI_wJ, zobj_wI, zobj_wJ, zarr_wI, zarr_wJ, zS_wI, zS_wJ, o_2, a_3, a_4, a_5, o_10, a_11, a_12, o_137, o_138, a_139, o_140, a_141, o_142, a_143, o_146, a_147, a_148, a_149, o_152, a_153, o_154, a_157, o_158, a_159, r_2_0, r_2_1, r_2_2, r_2_3, r_2_4, r_2_5, r_2_6, r_2_7, r_2_8, r_2_9, r_2_10, r_10_0, r_10_1, r_137_0, r_137_1, r_137_2, r_138_0, r_140_0, r_142_0, r_146_0, r_146_1, r_146_2, r_146_3, r_152_0, r_154_0, r_154_1, r_158_0, zrI, zrL, zrR, ne_eq, true_and, and_true, true_or, or_true, not_true_eq_false, not_false_eq_true, false_and, and_false, forall_const, true_implies, false_implies, implies_true, reduceCtorEq, Int.reduceEq, Int.reduceNe, Int.reduceLT, Int.reduceLE, Int.reduceNeg, Nat.reduceEqDiff, if_true, if_false, reduceIte, Int.reduceMul, Int.reduceAdd, Int.reduceSub]
          have hle : (i : Int) * (400 - (k : Int)) ≤ (((f (400 - (k : Int))).toNat : Nat) : Int) * (400 - (k : Int)) := Int.mul_le_mul_of_nonneg_right (by omega) (by omega)
          have hi0 : 0 ≤ (i : Int) * (400 - (k : Int)) := Int.mul_nonneg (by omega) (by omega)
          have hlt : ((i : Int) + 1) * (400 - (k : Int)) ≤ (((f (400 - (k : Int))).toNat : Nat) : Int) * (400 - (k : Int)) := Int.mul_le_mul_of_nonneg_right (by omega) (by omega)
          rw [Int.add_mul, Int.one_mul] at hlt
          have hie : (i : Int) * 1 ≤ (i : Int) * (400 - (k : Int)) := Int.mul_le_mul_of_nonneg_left (by omega) (by omega)
          have hsm : (oL f k ++ List.replicate i (400 - (k : Int))).sum = (oL f k).sum + (i : Int) * (400 - (k : Int)) := by rw [List.sum_append, List.sum_replicate_int]
          refine ⟨by omega, fun c => by omega, fun _ => t_Sum_add oh hT ?_ ?_ (fun ξ j1 j2 => ⟨by omega, ?_⟩)⟩
          · rw [List.length_append, List.length_replicate]
            omega
          · rw [hsm]
            omega
          · have := ihm (i + 1) ξ (by omega) (j2.oc (fun w => by omega) ho) (by rw [show List.replicate (i + 1) (400 - (k : Int)) = List.replicate i (400 - (k : Int)) ++ [400 - (k : Int)] from List.replicate_succ', ← List.append_assoc]; exact j1) (f1.tr (j2.mono (fun a w => Or.inr w)))
            rw [Int.natCast_succ] at this
            exact this
      exact k101 (f (400 - (k : Int))).toNat 0 τ (by omega) ho (by rw [List.replicate_zero, List.append_nil]; exact hT) f1
  have k28 : ∀ (e k : Nat) (u6 : PV) (τ : ZM), k + e = l.length → Oc τ 147 (cnO l k) → Fr (fun a => a = 147) σ τ → WP m_Leads_regroup 28 [zr 146, zi x, zi b, zr g, zr h, zi (k : Int), u6] [] τ (0, 0) Q := by
    intro e
    induction e with
    | zero =>
      intro k u6 τ hk ho f1
      have hTs := f1.shp hS
      have hlT := f1.lz (by omega) (by omega) hl
      have hlT1 := hlT.1
      rw [show k = l.length by omega] at ho
      refine r_Leads_regroup_28 ?_
      simp only [hTs, (hTs.sumO hg).1, hlT1, zrI, zrL, zrR, Shp_wI, Shp_wJ, zR_wI, zR_wJ, zJ_wI, zI_wJ, zobj_wI, zobj_wJ, zarr_wI, zarr_wJ, zS_wI, zS_wJ, o_2, a_3, a_4, a_5, o_10, a_11, a_12, o_137, o_138, a_139, o_140, a_141, o_142, a_143, o_146, a_147, a_148, a_149, o_152, a_153, o_154, a_157, o_158, a_159, r_2_0, r_2_1, r_2_2, r_2_3, r_2_4, r_2_5, r_2_6, r_2_7, r_2_8, r_2_9, r_2_10, r_10_0, r_10_1, r_137_0, r_137_1, r_137_2, r_138_0, r_140_0, r_142_0, r_146_0, r_146_1, r_146_2, r_146_3, r_152_0, r_154_0, r_154_1, r_158_0, zrI, zrL, zrR, ne_eq, true_and, and_true, true_or, or_true, not_true_eq_false, not_false_eq_true, false_and, and_false, forall_const, true_implies, false_implies, implies_true, reduceCtorEq, Int.reduceEq, Int.reduceNe, Int.reduceLT, Int.reduceLE, Int.reduceNeg, Nat.reduceEqDiff, if_true, if_false, reduceIte, Int.reduceMul, Int.reduceAdd, Int.reduceSub]
      refine ⟨fun _ => ⟨fun cb => t_max ?_, fun cb => t_max ?_⟩, fun c => by omega⟩
      · simp only [hTs, zrI, zrL, zrR, Shp_wI, Shp_wJ, zR_wI, zR_wJ, zJ_wI, zI_wJ, zobj_wI, zobj_wJ, zarr_wI, zarr_wJ, zS_wI, zS_wJ, o_2, a_3, a_4, a_5, o_10, a_11, a_12, o_137, o_138, a_139, o_140, a_141, o_142, a_143, o_146, a_147, a_148, a_149, o_152, a_153, o_154, a_157, o_158, a_159, r_2_0, r_2_1, r_2_2, r_2_3, r_2_4, r_2_5, r_2_6, r_2_7, r_2_8, r_2_9, r_2_10, r_10_0, r_10_1, r_137_0, r_137_1, r_137_2, r_138_0, r_140_0, r_142_0, r_146_0, r_146_1, r_146_2, r_146_3, r_152_0, r_154_0, r_154_1, r_158_0, zrI, zrL, zrR, ne_eq, true_and, and_true, true_or, or_true, not_true_eq_false, not_false_eq_true, false_and, and_false, forall_const, true_implies, false_implies, implies_true, reduceCtorEq, Int.reduceEq, Int.reduceNe, Int.reduceLT, Int.reduceLE, Int.reduceNeg, Nat.reduceEqDiff, if_true, if_false, reduceIte, Int.reduceMul, Int.reduceAdd, Int.reduceSub]
        rw [show max 2 x = x by omega]
        refine t_putT hTs ho (cnO_OcP hp) x0 x1 (fun υ w1 w2 => ?_)
        have hU := w2.shp hTs
        simp only [hU, (hU.sumO hh).1, zrI, zrL, zrR, Shp_wI, Shp_wJ, zR_wI, zR_wJ, zJ_wI, zI_wJ, zobj_wI, zobj_wJ, zarr_wI, zarr_wJ, zS_wI, zS_wJ, o_2, a_3, a_4, a_5, o_10, a_11, a_12, o_137, o_138, a_139, o_140, a_141, o_142, a_143, o_146, a_147, a_148, a_149, o_152, a_153, o_154, a_157, o_158, a_159, r_2_0, r_2_1, r_2_2, r_2_3, r_2_4, r_2_5, r_2_6, r_2_7, r_2_8, r_2_9, r_2_10, r_10_0, r_10_1, r_137_0, r_137_1, r_137_2, r_138_0, r_140_0, r_142_0, r_146_0, r_146_1, r_146_2, r_146_3, r_152_0, r_154_0, r_154_1, r_158_0, zrI, zrL, zrR, ne_eq, true_and, and_true, true_or, or_true, not_true_eq_false, not_false_eq_true, false_and, and_false, forall_const, true_implies, false_implies, implies_true, reduceCtorEq, Int.reduceEq, Int.reduceNe, Int.reduceLT, Int.reduceLE, Int.reduceNeg, Nat.reduceEqDiff, if_true, if_false, reduceIte, Int.reduceMul, Int.reduceAdd, Int.reduceSub]
        refine t_Sum_empty (hU.sumO hh) (fun ξ j1 j2 => ?_)
        rw [if_pos cb] at q
        exact k93 _ (gthF_OcP (cnO_OcP hp) x0 400 (Nat.le_refl _)) q 400 0 _ _ _ _ ξ (by omega) (j2.oc (fun w => by omega) w1) j1 (((f1.tr w2).mono (fun a w => Or.inl w)).tr (j2.mono (fun a w => Or.inr w)))
      · simp only [hTs, zrI, zrL, zrR, Shp_wI, Shp_wJ, zR_wI, zR_wJ, zJ_wI, zI_wJ, zobj_wI, zobj_wJ, zarr_wI, zarr_wJ, zS_wI, zS_wJ, o_2, a_3, a_4, a_5, o_10, a_11, a_12, o_137, o_138, a_139, o_140, a_141, o_142, a_143, o_146, a_147, a_148, a_149, o_152, a_153, o_154, a_157, o_158, a_159, r_2_0, r_2_1, r_2_2, r_2_3, r_2_4, r_2_5, r_2_6, r_2_7, r_2_8, r_2_9, r_2_10, r_10_0, r_10_1, r_137_0, r_137_1, r_137_2, r_138_0, r_140_0, r_142_0, r_146_0, r_146_1, r_146_2, r_146_3, r_152_0, r_154_0, r_154_1, r_158_0, zrI, zrL, zrR, ne_eq, true_and, and_true, true_or, or_true, not_true_eq_false, not_false_eq_true, false_and, and_false, forall_const, true_implies, false_implies, implies_true, reduceCtorEq, Int.reduceEq, Int.reduceNe, Int.reduceLT, Int.reduceLE, Int.reduceNeg, Nat.reduceEqDiff, if_true, if_false, reduceIte, Int.reduceMul, Int.reduceAdd, Int.reduceSub]
        rw [show max 2 x = x by omega]
        refine t_cut hTs ho (cnO_OcP hp) x0 x1 (fun υ w1 w2 => ?_)
        have hU := w2.shp hTs
        simp only [hU, (hU.sumO hh).1, zrI, zrL, zrR, Shp_wI, Shp_wJ, zR_wI, zR_wJ, zJ_wI, zI_wJ, zobj_wI, zobj_wJ, zarr_wI, zarr_wJ, zS_wI, zS_wJ, o_2, a_3, a_4, a_5, o_10, a_11, a_12, o_137, o_138, a_139, o_140, a_141, o_142, a_143, o_146, a_147, a_148, a_149, o_152, a_153, o_154, a_157, o_158, a_159, r_2_0, r_2_1, r_2_2, r_2_3, r_2_4, r_2_5, r_2_6, r_2_7, r_2_8, r_2_9, r_2_10, r_10_0, r_10_1, r_137_0, r_137_1, r_137_2, r_138_0, r_140_0, r_142_0, r_146_0, r_146_1, r_146_2, r_146_3, r_152_0, r_154_0, r_154_1, r_158_0, zrI, zrL, zrR, ne_eq, true_and, and_true, true_or, or_true, not_true_eq_false, not_false_eq_true, false_and, and_false, forall_const, true_implies, false_implies, implies_true, reduceCtorEq, Int.reduceEq, Int.reduceNe, Int.reduceLT, Int.reduceLE, Int.reduceNeg, Nat.reduceEqDiff, if_true, if_false, reduceIte, Int.reduceMul, Int.reduceAdd, Int.reduceSub]
        refine t_Sum_empty (hU.sumO hh) (fun ξ j1 j2 => ?_)
        rw [if_neg cb] at q
        exact k93 _ (cutF_OcP (cnO_OcP hp) x0 400 (Nat.le_refl _)) q 400 0 _ _ _ _ ξ (by omega) (j2.oc (fun w => by omega) w1) j1 (((f1.tr w2).mono (fun a w => Or.inl w)).tr (j2.mono (fun a w => Or.inr w)))
    | succ e ih =>
      intro k u6 τ hk ho f1
      have hTs := f1.shp hS
      have hlT := f1.lz (by omega) (by omega) hl
      have hlT1 := hlT.1
      have hr := hp.rng (k : Int)
      have v1 := ho (ga l (k : Int)) (by omega) (by omega)
      have hcn := cnO_ge (l := l) k (ga l (k : Int))
      refine r_Leads_regroup_28 ?_
      simp only [hTs, (hTs.sumO hg).1, hlT1, zrI, zrL, zrR, Shp_wI, Shp_wJ, zR_wI, zR_wJ, zJ_wI, zI_wJ, zobj_wI, zobj_wJ, zarr_wI, zarr_wJ, zS_wI, zS_wJ, o_2, a_3, a_4, a_5, o_10, a_11, a_12, o_137, o_138, a_139, o_140, a_141, o_142, a_143, o_146, a_147, a_148, a_149, o_152, a_153, o_154, a_157, o_158, a_159, r_2_0, r_2_1, r_2_2, r_2_3, r_2_4, r_2_5, r_2_6, r_2_7, r_2_8, r_2_9, r_2_10, r_10_0, r_10_1, r_137_0, r_137_1, r_137_2, r_138_0, r_140_0, r_142_0, r_146_0, r_146_1, r_146_2, r_146_3, r_152_0, r_154_0, r_154_1, r_158_0, zrI, zrL, zrR, ne_eq, true_and, and_true, true_or, or_true, not_true_eq_false, not_false_eq_true, false_and, and_false, forall_const, true_implies, false_implies, implies_true, reduceCtorEq, Int.reduceEq, Int.reduceNe, Int.reduceLT, Int.reduceLE, Int.reduceNeg, Nat.reduceEqDiff, if_true, if_false, reduceIte, Int.reduceMul, Int.reduceAdd, Int.reduceSub]
      refine ⟨fun c => by omega, fun _ => t_Sum_at (hTs.sumO hg) hlT ?_⟩
      simp only [hTs, v1, zrI, zrL, zrR, Shp_wI, Shp_wJ, zR_wI, zR_wJ, zJ_wI, zI_wJ, zobj_wI, zobj_wJ, zarr_wI, zarr_wJ, zS_wI, zS_wJ, o_2, a_3, a_4, a_5, o_10, a_11, a_12, o_137, o_138, a_139, o_140, a_141, o_142, a_143, o_146, a_147, a_148, a_149, o_152, a_153, o_154, a_157, o_158, a_159, r_2_0, r_2_1, r_2_2, r_2_3, r_2_4, r_2_5, r_2_6, r_2_7, r_2_8, r_2_9, r_2_10, r_10_0, r_10_1, r_137_0, r_137_1, r_137_2, r_138_0, r_140_0, r_142_0, r_146_0, r_146_1, r_146_2, r_146_3, r_152_0, r_154_0, r_154_1, r_158_0, zrI, zrL, zrR, ne_eq, true_and, and_true, true_or, or_true, not_true_eq_false, not_false_eq_true, false_and, and_false, forall_const, true_implies, false_implies, implies_true, reduceCtorEq, Int.reduceEq, Int.reduceNe, Int.reduceLT, Int.reduceLE, Int.reduceNeg, Nat.reduceEqDiff, if_true, if_false, reduceIte, Int.reduceMul, Int.reduceAdd, Int.reduceSub]
      have := ih (k + 1) u6 _ (by omega) (by rw [cnO_succ]; exact ho.w _ _) (f1.tr (Fr.wI rfl))
      rw [Int.natCast_succ] at this
      exact ⟨by omega, by omega, by omega, by omega, this⟩
  have k3 : ∀ (e k : Nat) (u6 : PV) (τ : ZM), k + e = 401 → (∀ v : Int, 0 ≤ v → v < (k : Int) → zI τ 147 v = 0) → Fr (fun a => a = 147) σ τ → WP m_Leads_regroup 3 [zr 146, zi x, zi b, zr g, zr h, zi (k : Int), u6] [] τ (0, 0) Q := by
    intro e
    induction e with
    | zero =>
      intro k u6 τ hk ho f1
      exact r_Leads_regroup_3 ⟨fun _ => k28 l.length 0 u6 τ (by omega) (fun v v0 v1 => by rw [ho v v0 (by omega)]; rfl) f1, fun c => by omega⟩
    | succ e ih =>
      intro k u6 τ hk ho f1
      have hTs := f1.shp hS
      refine r_Leads_regroup_3 ?_
      simp only [hTs, zrI, zrL, zrR, Shp_wI, Shp_wJ, zR_wI, zR_wJ, zJ_wI, zI_wJ, zobj_wI, zobj_wJ, zarr_wI, zarr_wJ, zS_wI, zS_wJ, o_2, a_3, a_4, a_5, o_10, a_11, a_12, o_137, o_138, a_139, o_140, a_141, o_142, a_143, o_146, a_147, a_148, a_149, o_152, a_153, o_154, a_157, o_158, a_159, r_2_0, r_2_1, r_2_2, r_2_3, r_2_4, r_2_5, r_2_6, r_2_7, r_2_8, r_2_9, r_2_10, r_10_0, r_10_1, r_137_0, r_137_1, r_137_2, r_138_0, r_140_0, r_142_0, r_146_0, r_146_1, r_146_2, r_146_3, r_152_0, r_154_0, r_154_1, r_158_0, zrI, zrL, zrR, ne_eq, true_and, and_true, true_or, or_true, not_true_eq_false, not_false_eq_true, false_and, and_false, forall_const, true_implies, false_implies, implies_true, reduceCtorEq, Int.reduceEq, Int.reduceNe, Int.reduceLT, Int.reduceLE, Int.reduceNeg, Nat.reduceEqDiff, if_true, if_false, reduceIte, Int.reduceMul, Int.reduceAdd, Int.reduceSub]
      have := ih (k + 1) u6 (wI τ 147 (k : Int) 0) (by omega) (fun v v0 v1 => by
        rw [zI_wI]
        by_cases c : v = (k : Int)
        · rw [if_pos ⟨rfl, c⟩]
        · rw [if_neg (by omega)]
          exact ho v v0 (by omega)) (f1.tr (Fr.wI rfl))
      rw [Int.natCast_succ] at this
      exact ⟨fun c => by omega, fun _ => ⟨by omega, by omega, this⟩⟩
  exact r_Leads_regroup_0 (k3 401 0 zu σ (by omega) (fun v v0 v1 => by omega) Fr.rf)
