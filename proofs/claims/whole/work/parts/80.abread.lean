/-! Abacus, of the class: read, beadsOn, emptyRunner -/
/-- how many places a runner has -/
def plcN (T t r : Nat) : Nat := (T - r + t - 1) / t
theorem plcN_iff {T t r i : Nat} (ht : 1 ≤ t) (hr : r < T) : i < plcN T t r ↔ r + t * i < T := by
  unfold plcN
  rw [Nat.lt_iff_add_one_le, Nat.le_div_iff_mul_le (by omega), Nat.add_mul, Nat.mul_comm i t]
  omega
theorem AbI.at' {σ : ZM} {t : Nat} {B : BF} (a : AbI σ t B) {st r i : Nat} (h : r + st * i < 812) : zI σ 153 ((r : Int) + ((st * i : Nat) : Int)) = if runB B st r i then 1 else 0 := by
  have := a.2.1 (r + st * i) h
  rw [Int.natCast_add] at this
  exact this
theorem Fr.ab {P : Nat → Prop} {σ σ' : ZM} (f : Fr P σ σ') {t : Nat} {B : BF} (h1 : ¬ P 152) (h2 : ¬ P 153) (a : AbI σ t B) : AbI σ' t B := ⟨by rw [(f.2.2.2 152 h1).1]; exact a.1, fun p hp => by rw [(f.2.2.2 153 h2).1]; exact a.2.1 p hp, a.2.2⟩
theorem t_readEvery {Q : ZQ} {σ : ZM} {t st r : Nat} {B : BF} (hS : Shp σ) (a : AbI σ t B) (s1 : 1 ≤ st) (s2 : st ≤ 12) (hr : r < st) (he : eB (runB B st r) (plcN 812 st r) ≤ 400) (q : ∀ σ', Lz σ' 133 (rdL (runB B st r) (plcN 812 st r)) → Fr (two 133) σ σ' → Q zu σ') : WP m_Abacus_readEvery 0 [zr 152, zi (st : Int), zi (r : Int), zr 133, zu, zu, zu, zu] [] σ (0, 0) Q := by
  have hpl := fun i => plcN_iff (T := 812) (t := st) (r := r) (i := i) s1 (by omega)
  generalize hBr : runB B st r = Br at *
  have hat : ∀ i : Nat, i < plcN 812 st r → zI σ 153 ((r : Int) + ((st * i : Nat) : Int)) = if Br i then 1 else 0 := fun i hi => by
    have := a.at' ((hpl i).mp hi)
    rw [hBr] at this
    exact this
  have hP812 : plcN 812 st r ≤ 812 := by
    rcases Nat.lt_or_ge 812 (plcN 812 st r) with z | z
    · have := (hpl 812).mp z
      have := Nat.le_mul_of_pos_left 812 (show 0 < st by omega)
      omega
    · exact z
  have hPt := rdL_Pt he
  have emx : max 1 (st : Int) = (st : Int) := by omega
  have k62 : ∀ (m : Nat) (x : Int) (acc : List Int) (τ : ZM) (u2 u5 u7 : PV), x + (st : Int) = (r : Int) + ((st * m : Nat) : Int) → m ≤ plcN 812 st r → acc ++ rdL Br m = rdL Br (plcN 812 st r) → Lz τ 133 acc → Fr (two 133) σ τ → WP m_Abacus_readEvery 62 [zr 152, zi (st : Int), u2, zr 133, zi ((m - cB Br m : Nat) : Int), u5, zi x, u7] [] τ (0, 0) Q := by
    intro m
    induction m with
    | zero =>
      intro x acc τ u2 u5 u7 hx hxp hacc hl f
      have e : acc ++ [] = rdL Br (plcN 812 st r) := hacc
      rw [List.append_nil] at e
      rw [e] at hl
      rw [Nat.mul_zero] at hx
      exact r_Abacus_readEvery_62 ⟨fun _ => q τ hl f, fun c => by omega⟩
    | succ m ih =>
      intro x acc τ u2 u5 u7 hx hxp hacc hl f
      have hT := f.shp hS
      have hml : m < plcN 812 st r := by omega
      have hb := (hpl m).mp hml
      have em : x = (r : Int) + ((st * m : Nat) : Int) := by
        rw [Nat.mul_succ] at hx
        omega
      subst em
      have hv : zI τ 153 ((r : Int) + ((st * m : Nat) : Int)) = if Br m then 1 else 0 := by rw [(f.2.2.2 153 (by omega)).1]; exact hat m hml
      have hc := cB_le Br m
      have ec : cB Br (m + 1) = cB Br m + (if Br m then 1 else 0) := rfl
      have er : rdL Br (m + 1) = if Br m = true ∧ cB Br m < m then ((m - cB Br m : Nat) : Int) :: rdL Br m else rdL Br m := rfl
      refine r_Abacus_readEvery_62 ?_
      simp only [hT, hv, (hT.sumO isS_133).1, zrI, zrL, zrR, Shp_wI, Shp_wJ, zR_wI, zR_wJ, zJ_wI, zI_wJ, zobj_wI, zobj_wJ, zarr_wI, zarr_wJ, zS_wI, zS_wJ, o_2, a_3, a_4, a_5, o_10, a_11, a_12, o_137, o_138, a_139, o_140, a_141, o_142, a_143, o_146, a_147, a_148, a_149, o_152, a_153, o_154, a_157, o_158, a_159, r_2_0, r_2_1, r_2_2, r_2_3, r_2_4, r_2_5, r_2_6, r_2_7, r_2_8, r_2_9, r_2_10, r_10_0, r_10_1, r_137_0, r_137_1, r_137_2, r_138_0, r_140_0, r_142_0, r_146_0, r_146_1, r_146_2, r_146_3, r_152_0, r_154_0, r_154_1, r_158_0, zrI, zrL, zrR, ne_eq, true_and, and_true, true_or, or_true, not_true_eq_false, not_false_eq_true, false_and, and_false, forall_const, true_implies, false_implies, implies_true, reduceCtorEq, Int.reduceEq, Int.reduceNe, Int.reduceLT, Int.reduceLE, Int.reduceNeg, Nat.reduceEqDiff, if_true, if_false, reduceIte, Int.reduceMul, Int.reduceAdd, Int.reduceSub]
      rw [ec]
      by_cases hbm : Br m = true
      · rw [if_pos hbm, if_pos hbm]
        simp only [zrI, zrL, zrR, ne_eq, true_and, and_true, true_or, or_true, not_true_eq_false, not_false_eq_true, false_and, and_false, forall_const, true_implies, false_implies, implies_true, reduceCtorEq, Int.reduceEq, Int.reduceNe, Int.reduceLT, Int.reduceLE, Int.reduceNeg, Nat.reduceEqDiff, if_true, if_false, reduceIte, Int.reduceMul, Int.reduceAdd, Int.reduceSub]
        by_cases h0 : cB Br m < m
        · rw [er, if_pos ⟨hbm, h0⟩] at hacc
          have hlen := hPt.len
          have h4 := hPt.2.1
          have hsum : (rdL Br (plcN 812 st r)).sum = acc.sum + (((m - cB Br m : Nat) : Int) + (rdL Br m).sum) := by rw [← hacc]; simp
          have hlen2 : (rdL Br (plcN 812 st r)).length = acc.length + ((rdL Br m).length + 1) := by rw [← hacc]; simp
          have hrs := rdL_sum Br m
          refine ⟨fun c => by omega, fun _ => ⟨by omega, by omega, ?_⟩⟩
          rw [show ((m + 1 - (cB Br m + 1) : Nat) : Int) - 0 = ((m - cB Br m : Nat) : Int) by omega]
          refine ⟨fun c => by omega, fun _ => t_Sum_add (hT.sumO isS_133) hl (by omega) (by have := hl.2.2.1; have hacc0 := sum_pos acc (fun x hx => hPt.1 x (by rw [← hacc]; exact List.mem_append_left _ hx)); omega) (fun υ w1 w2 => t_max ?_)⟩
          rw [emx]
          refine ⟨by omega, ?_⟩
          refine ih _ (acc ++ [((m - cB Br m : Nat) : Int)]) υ _ _ _ (by omega) (by omega) ?_ w1 (f.tr w2)
          rw [← hacc]
          simp
        · rw [er, if_neg (fun w => h0 w.2)] at hacc
          refine ⟨fun c => by omega, fun _ => ⟨by omega, by omega, ?_⟩⟩
          rw [show ((m + 1 - (cB Br m + 1) : Nat) : Int) - 0 = ((m - cB Br m : Nat) : Int) by omega]
          refine ⟨fun _ => t_max ?_, fun c => by omega⟩
          rw [emx]
          exact ⟨by omega, ih _ acc τ _ _ _ (by omega) (by omega) hacc hl f⟩
      · rw [if_neg hbm, if_neg hbm]
        simp only [zrI, zrL, zrR, ne_eq, true_and, and_true, true_or, or_true, not_true_eq_false, not_false_eq_true, false_and, and_false, forall_const, true_implies, false_implies, implies_true, reduceCtorEq, Int.reduceEq, Int.reduceNe, Int.reduceLT, Int.reduceLE, Int.reduceNeg, Nat.reduceEqDiff, if_true, if_false, reduceIte, Int.reduceMul, Int.reduceAdd, Int.reduceSub]
        rw [er, if_neg (fun w => hbm w.1)] at hacc
        refine ⟨fun c => by omega, fun _ => ⟨by omega, by omega, ?_⟩⟩
        rw [show ((m + 1 - (cB Br m + 0) : Nat) : Int) - 1 = ((m - cB Br m : Nat) : Int) by omega]
        refine t_max ?_
        rw [emx]
        exact ⟨by omega, ih _ acc τ _ _ _ (by omega) (by omega) hacc hl f⟩
  have hp1 : 1 ≤ plcN 812 st r := (hpl 0).mpr (by rw [Nat.mul_zero]; omega)
  have k9 : ∀ (g i : Nat) (x5 : Int) (u2 u7 : PV), i + g = plcN 812 st r → (i = 0 ∨ x5 + (st : Int) = (r : Int) + ((st * i : Nat) : Int)) → WP m_Abacus_readEvery 9 [zr 152, zi (st : Int), u2, zr 133, zi ((i - cB Br i : Nat) : Int), zi x5, zi ((r : Int) + ((st * i : Nat) : Int)), u7] [] σ (0, 0) Q := by
    intro g
    induction g with
    | zero =>
      intro i x5 u2 u7 hi hx
      have hge : 812 ≤ r + st * i := by
        rcases Nat.lt_or_ge (r + st * i) 812 with z | z
        · have := (hpl i).mpr z; omega
        · exact z
      refine r_Abacus_readEvery_9 ?_
      simp only [hS, (hS.sumO isS_133).1, zrI, zrL, zrR, Shp_wI, Shp_wJ, zR_wI, zR_wJ, zJ_wI, zI_wJ, zobj_wI, zobj_wJ, zarr_wI, zarr_wJ, zS_wI, zS_wJ, o_2, a_3, a_4, a_5, o_10, a_11, a_12, o_137, o_138, a_139, o_140, a_141, o_142, a_143, o_146, a_147, a_148, a_149, o_152, a_153, o_154, a_157, o_158, a_159, r_2_0, r_2_1, r_2_2, r_2_3, r_2_4, r_2_5, r_2_6, r_2_7, r_2_8, r_2_9, r_2_10, r_10_0, r_10_1, r_137_0, r_137_1, r_137_2, r_138_0, r_140_0, r_142_0, r_146_0, r_146_1, r_146_2, r_146_3, r_152_0, r_154_0, r_154_1, r_158_0, zrI, zrL, zrR, ne_eq, true_and, and_true, true_or, or_true, not_true_eq_false, not_false_eq_true, false_and, and_false, forall_const, true_implies, false_implies, implies_true, reduceCtorEq, Int.reduceEq, Int.reduceNe, Int.reduceLT, Int.reduceLE, Int.reduceNeg, Nat.reduceEqDiff, if_true, if_false, reduceIte, Int.reduceMul, Int.reduceAdd, Int.reduceSub]
      refine ⟨fun _ => t_Sum_empty (hS.sumO isS_133) (fun τ w1 w2 => ?_), fun c => by omega⟩
      have ei : i = plcN 812 st r := by omega
      rcases hx with hx | hx
      · omega
      · exact k62 i x5 [] τ _ _ _ hx (by omega) (by rw [ei]; simp) w1 w2
    | succ g ih =>
      intro i x5 u2 u7 hi hx
      have hb := (hpl i).mp (by omega)
      have hc := cB_le Br i
      have ec : cB Br (i + 1) = cB Br i + (if Br i then 1 else 0) := rfl
      have ihi := ih (i + 1) ((r : Int) + ((st * i : Nat) : Int)) u2 u7 (by omega) (Or.inr (by rw [Nat.mul_succ]; omega))
      rw [ec, show (r : Int) + ((st * (i + 1) : Nat) : Int) = (r : Int) + ((st * i : Nat) : Int) + (st : Int) by rw [Nat.mul_succ]; omega] at ihi
      refine r_Abacus_readEvery_9 ?_
      simp only [hS, hat i (by omega), zrI, zrL, zrR, Shp_wI, Shp_wJ, zR_wI, zR_wJ, zJ_wI, zI_wJ, zobj_wI, zobj_wJ, zarr_wI, zarr_wJ, zS_wI, zS_wJ, o_2, a_3, a_4, a_5, o_10, a_11, a_12, o_137, o_138, a_139, o_140, a_141, o_142, a_143, o_146, a_147, a_148, a_149, o_152, a_153, o_154, a_157, o_158, a_159, r_2_0, r_2_1, r_2_2, r_2_3, r_2_4, r_2_5, r_2_6, r_2_7, r_2_8, r_2_9, r_2_10, r_10_0, r_10_1, r_137_0, r_137_1, r_137_2, r_138_0, r_140_0, r_142_0, r_146_0, r_146_1, r_146_2, r_146_3, r_152_0, r_154_0, r_154_1, r_158_0, zrI, zrL, zrR, ne_eq, true_and, and_true, true_or, or_true, not_true_eq_false, not_false_eq_true, false_and, and_false, forall_const, true_implies, false_implies, implies_true, reduceCtorEq, Int.reduceEq, Int.reduceNe, Int.reduceLT, Int.reduceLE, Int.reduceNeg, Nat.reduceEqDiff, if_true, if_false, reduceIte, Int.reduceMul, Int.reduceAdd, Int.reduceSub]
      by_cases hbi : Br i = true
      · rw [if_pos hbi] at ihi
        rw [if_pos hbi]
        simp only [zrI, zrL, zrR, ne_eq, true_and, and_true, true_or, or_true, not_true_eq_false, not_false_eq_true, false_and, and_false, forall_const, true_implies, false_implies, implies_true, reduceCtorEq, Int.reduceEq, Int.reduceNe, Int.reduceLT, Int.reduceLE, Int.reduceNeg, Nat.reduceEqDiff, if_true, if_false, reduceIte, Int.reduceMul, Int.reduceAdd, Int.reduceSub]
        refine ⟨fun c => by omega, fun _ => ⟨by omega, by omega, t_max ?_⟩⟩
        rw [emx, show ((i - cB Br i : Nat) : Int) + 0 = ((i + 1 - (cB Br i + 1) : Nat) : Int) by omega]
        exact ⟨by omega, ihi⟩
      · rw [if_neg hbi] at ihi
        rw [if_neg hbi]
        simp only [zrI, zrL, zrR, ne_eq, true_and, and_true, true_or, or_true, not_true_eq_false, not_false_eq_true, false_and, and_false, forall_const, true_implies, false_implies, implies_true, reduceCtorEq, Int.reduceEq, Int.reduceNe, Int.reduceLT, Int.reduceLE, Int.reduceNeg, Nat.reduceEqDiff, if_true, if_false, reduceIte, Int.reduceMul, Int.reduceAdd, Int.reduceSub]
        refine ⟨fun c => by omega, fun _ => ⟨by omega, by omega, t_max ?_⟩⟩
        rw [emx, show ((i - cB Br i : Nat) : Int) + 1 = ((i + 1 - (cB Br i + 0) : Nat) : Int) by omega]
        exact ⟨by omega, ihi⟩
  refine r_Abacus_readEvery_0 ?_
  have := k9 (plcN 812 st r) 0 (r : Int) (zi (r : Int)) zu (by omega) (Or.inl rfl)
  rw [show ((0 - cB Br 0 : Nat) : Int) = 0 from rfl, show (r : Int) + ((st * 0 : Nat) : Int) = (r : Int) by simp] at this
  exact this
