/-! core, quotient, peel, of the class -/
theorem runB_1 {B : BF} : runB B 1 0 = B := by
  funext i
  show B (0 + 1 * i) = B i
  rw [Nat.zero_add, Nat.one_mul]
theorem plcN_1 {T : Nat} : plcN T 1 0 = T := by
  unfold plcN
  rw [Nat.div_one]
  omega
theorem t_abread {Q : ZQ} {σ : ZM} {t : Nat} {B : BF} (hS : Shp σ) (a : AbI σ t B) (he : eB B 812 ≤ 400) (q : ∀ σ', Lz σ' 133 (rdL B 812) → Fr (two 133) σ σ' → Q zu σ') : WP m_Abacus_read 0 [zr 152, zr 133] [] σ (0, 0) Q := by
  refine r_Abacus_read_0 ?_
  have := t_readEvery (Q := fun _ σ2 => Q zu σ2) (st := 1) (r := 0) hS a (by omega) (by omega) (by omega) (by rw [runB_1, plcN_1]; exact he) (fun τ w1 w2 => by rw [runB_1, plcN_1] at w1; exact q τ w1 w2)
  simp only [hS, zrI, zrL, zrR, Shp_wI, Shp_wJ, zR_wI, zR_wJ, zJ_wI, zI_wJ, zobj_wI, zobj_wJ, zarr_wI, zarr_wJ, zS_wI, zS_wJ, o_2, a_3, a_4, a_5, o_10, a_11, a_12, o_137, o_138, a_139, o_140, a_141, o_142, a_143, o_146, a_147, a_148, a_149, o_152, a_153, o_154, a_157, o_158, a_159, r_2_0, r_2_1, r_2_2, r_2_3, r_2_4, r_2_5, r_2_6, r_2_7, r_2_8, r_2_9, r_2_10, r_10_0, r_10_1, r_137_0, r_137_1, r_137_2, r_138_0, r_140_0, r_142_0, r_146_0, r_146_1, r_146_2, r_146_3, r_152_0, r_154_0, r_154_1, r_158_0, zrI, zrL, zrR, ne_eq, true_and, and_true, true_or, or_true, not_true_eq_false, not_false_eq_true, false_and, and_false, forall_const, true_implies, false_implies, implies_true, reduceCtorEq, Int.reduceEq, Int.reduceNe, Int.reduceLT, Int.reduceLE, Int.reduceNeg, Nat.reduceEqDiff, if_true, if_false, reduceIte, Int.reduceMul, Int.reduceAdd, Int.reduceSub]
  exact this
theorem AI.fr {P : Nat → Prop} {σ σ' : ZM} {S : Int → List Int} {N : List (Int × List Int)} (h : AI σ S N) (f : Fr P σ σ') (hP : ∀ a, P a → a = 133 ∨ a = 134 ∨ a = 152 ∨ a = 153) : AI σ' S N := ⟨f.shp h.1, f.notes (fun a w w2 => by have := hP a w2; omega) h.2.1, f.shI (fun a a0 a1 w => by have := hP a w; omega) h.2.2⟩
/-- the beads of a sum, in the least width -/
def bdS (l : List Int) (t : Nat) : BF := stB l (widN l.length t) (widN l.length t)
theorem bdS_e {l : List Int} {t : Nat} (hp : Pt l) (t0 : 2 ≤ t) (t1 : t ≤ 12) : (eB (bdS l t) 812 : Int) = l.sum := by
  have hW := widN_bd (n := l.length) (t := t) (by omega)
  have hl := hp.len
  have h4 := hp.2.1
  exact eB_st hp hW.1 (by omega)
abbrev ccf (a : Nat) : Prop := acf a ∨ abf a
theorem t_core {Q : ZQ} {σ : ZM} {N : List (Int × List Int)} {S : Int → List Int} {t s d : Int} (h : AI σ S N) (q0 : (t < 2 ∨ 12 < t ∨ s < 0 ∨ 7 < s ∨ d < 0 ∨ 7 < d) → Q (zi (-2)) σ)
    (q1 : 2 ≤ t → t ≤ 12 → 0 ≤ s → s ≤ 7 → 0 ≤ d → d ≤ 7 → ∀ σ', AI σ' (upS S d (rdL (coB (bdS (S s) t.toNat) t.toNat) 812)) (actN S N d) → Fr ccf σ σ' → Q (zi (rdL (coB (bdS (S s) t.toNat) t.toNat) 812).sum) σ') : WP m_PP_core 0 [zr 2, zi t, zi s, zi d] [] σ (0, 0) Q := by
  refine r_PP_core_0 (t_isHookLength (fun t0 t1 => ?_) (fun c => by simp only [zrI, zrL, zrR, ne_eq, true_and, and_true, true_or, or_true, not_true_eq_false, not_false_eq_true, false_and, and_false, forall_const, true_implies, false_implies, implies_true, reduceCtorEq, Int.reduceEq, Int.reduceNe, Int.reduceLT, Int.reduceLE, Int.reduceNeg, Nat.reduceEqDiff, if_true, if_false, reduceIte, Int.reduceMul, Int.reduceAdd, Int.reduceSub]; exact q0 (by omega)))
  simp only [zrI, zrL, zrR, ne_eq, true_and, and_true, true_or, or_true, not_true_eq_false, not_false_eq_true, false_and, and_false, forall_const, true_implies, false_implies, implies_true, reduceCtorEq, Int.reduceEq, Int.reduceNe, Int.reduceLT, Int.reduceLE, Int.reduceNeg, Nat.reduceEqDiff, if_true, if_false, reduceIte, Int.reduceMul, Int.reduceAdd, Int.reduceSub]
  refine t_isSheet (fun s0 s1 => ?_) (fun c => by simp only [zrI, zrL, zrR, ne_eq, true_and, and_true, true_or, or_true, not_true_eq_false, not_false_eq_true, false_and, and_false, forall_const, true_implies, false_implies, implies_true, reduceCtorEq, Int.reduceEq, Int.reduceNe, Int.reduceLT, Int.reduceLE, Int.reduceNeg, Nat.reduceEqDiff, if_true, if_false, reduceIte, Int.reduceMul, Int.reduceAdd, Int.reduceSub]; exact q0 (by omega))
  simp only [zrI, zrL, zrR, ne_eq, true_and, and_true, true_or, or_true, not_true_eq_false, not_false_eq_true, false_and, and_false, forall_const, true_implies, false_implies, implies_true, reduceCtorEq, Int.reduceEq, Int.reduceNe, Int.reduceLT, Int.reduceLE, Int.reduceNeg, Nat.reduceEqDiff, if_true, if_false, reduceIte, Int.reduceMul, Int.reduceAdd, Int.reduceSub]
  refine t_isSheet (fun d0 d1 => ?_) (fun c => by simp only [zrI, zrL, zrR, ne_eq, true_and, and_true, true_or, or_true, not_true_eq_false, not_false_eq_true, false_and, and_false, forall_const, true_implies, false_implies, implies_true, reduceCtorEq, Int.reduceEq, Int.reduceNe, Int.reduceLT, Int.reduceLE, Int.reduceNeg, Nat.reduceEqDiff, if_true, if_false, reduceIte, Int.reduceMul, Int.reduceAdd, Int.reduceSub]; exact q0 (by omega))
  have hS := h.1
  have r3 : zR σ 3 s = 160 + 2 * s.toNat := h.1.2.2 3 s (by unfold rfx; omega)
  obtain ⟨hp, hl⟩ := h.2.2 s s0 s1
  have os := h.1.sumO (isS_sheet s0 s1)
  have hl1 := hl.1
  have et : t = (t.toNat : Int) := by omega
  generalize t.toNat = tn at *
  subst et
  have hlen := hp.len
  have h4 := hp.2.1
  simp only [hS, r3, os.1, hl1, zrI, zrL, zrR, Shp_wI, Shp_wJ, zR_wI, zR_wJ, zJ_wI, zI_wJ, zobj_wI, zobj_wJ, zarr_wI, zarr_wJ, zS_wI, zS_wJ, o_2, a_3, a_4, a_5, o_10, a_11, a_12, o_137, o_138, a_139, o_140, a_141, o_142, a_143, o_146, a_147, a_148, a_149, o_152, a_153, o_154, a_157, o_158, a_159, r_2_0, r_2_1, r_2_2, r_2_3, r_2_4, r_2_5, r_2_6, r_2_7, r_2_8, r_2_9, r_2_10, r_10_0, r_10_1, r_137_0, r_137_1, r_137_2, r_138_0, r_140_0, r_142_0, r_146_0, r_146_1, r_146_2, r_146_3, r_152_0, r_154_0, r_154_1, r_158_0, zrI, zrL, zrR, ne_eq, true_and, and_true, true_or, or_true, not_true_eq_false, not_false_eq_true, false_and, and_false, forall_const, true_implies, false_implies, implies_true, reduceCtorEq, Int.reduceEq, Int.reduceNe, Int.reduceLT, Int.reduceLE, Int.reduceNeg, Nat.reduceEqDiff, if_true, if_false, reduceIte, Int.reduceMul, Int.reduceAdd, Int.reduceSub]
  refine ⟨Or.inl ⟨by omega, by omega⟩, Or.inl ⟨by omega, by omega⟩, t_abset (t := tn) hS (isS_sheet s0 s1) hp hl (by omega) (by omega) (Nat.le_refl _) (by omega) (fun τ a1 f1 => ?_)⟩
  have hT := f1.shp hS
  simp only [hT, zrI, zrL, zrR, Shp_wI, Shp_wJ, zR_wI, zR_wJ, zJ_wI, zI_wJ, zobj_wI, zobj_wJ, zarr_wI, zarr_wJ, zS_wI, zS_wJ, o_2, a_3, a_4, a_5, o_10, a_11, a_12, o_137, o_138, a_139, o_140, a_141, o_142, a_143, o_146, a_147, a_148, a_149, o_152, a_153, o_154, a_157, o_158, a_159, r_2_0, r_2_1, r_2_2, r_2_3, r_2_4, r_2_5, r_2_6, r_2_7, r_2_8, r_2_9, r_2_10, r_10_0, r_10_1, r_137_0, r_137_1, r_137_2, r_138_0, r_140_0, r_142_0, r_146_0, r_146_1, r_146_2, r_146_3, r_152_0, r_154_0, r_154_1, r_158_0, zrI, zrL, zrR, ne_eq, true_and, and_true, true_or, or_true, not_true_eq_false, not_false_eq_true, false_and, and_false, forall_const, true_implies, false_implies, implies_true, reduceCtorEq, Int.reduceEq, Int.reduceNe, Int.reduceLT, Int.reduceLE, Int.reduceNeg, Nat.reduceEqDiff, if_true, if_false, reduceIte, Int.reduceMul, Int.reduceAdd, Int.reduceSub]
  refine t_abpush hT a1 (by omega) (by omega) (fun υ a2 f2 => ?_)
  have hU := f2.shp hT
  have he := bdS_e hp (t := tn) (by omega) (by omega)
  have he2 := coB_e (T := 812) (t := tn) (by omega) (by omega) (by omega) a1.2.2
  simp only [hU, zrI, zrL, zrR, Shp_wI, Shp_wJ, zR_wI, zR_wJ, zJ_wI, zI_wJ, zobj_wI, zobj_wJ, zarr_wI, zarr_wJ, zS_wI, zS_wJ, o_2, a_3, a_4, a_5, o_10, a_11, a_12, o_137, o_138, a_139, o_140, a_141, o_142, a_143, o_146, a_147, a_148, a_149, o_152, a_153, o_154, a_157, o_158, a_159, r_2_0, r_2_1, r_2_2, r_2_3, r_2_4, r_2_5, r_2_6, r_2_7, r_2_8, r_2_9, r_2_10, r_10_0, r_10_1, r_137_0, r_137_1, r_137_2, r_138_0, r_140_0, r_142_0, r_146_0, r_146_1, r_146_2, r_146_3, r_152_0, r_154_0, r_154_1, r_158_0, zrI, zrL, zrR, ne_eq, true_and, and_true, true_or, or_true, not_true_eq_false, not_false_eq_true, false_and, and_false, forall_const, true_implies, false_implies, implies_true, reduceCtorEq, Int.reduceEq, Int.reduceNe, Int.reduceLT, Int.reduceLE, Int.reduceNeg, Nat.reduceEqDiff, if_true, if_false, reduceIte, Int.reduceMul, Int.reduceAdd, Int.reduceSub]
  have he3 : eB (coB (bdS (S s) tn) tn) 812 ≤ eB (bdS (S s) tn) 812 := he2
  refine t_abread hU a2 (by unfold bdS at he3 he; omega) (fun ω w1 f3 => ?_)
  have hO := f3.shp hU
  simp only [hO, zrI, zrL, zrR, Shp_wI, Shp_wJ, zR_wI, zR_wJ, zJ_wI, zI_wJ, zobj_wI, zobj_wJ, zarr_wI, zarr_wJ, zS_wI, zS_wJ, o_2, a_3, a_4, a_5, o_10, a_11, a_12, o_137, o_138, a_139, o_140, a_141, o_142, a_143, o_146, a_147, a_148, a_149, o_152, a_153, o_154, a_157, o_158, a_159, r_2_0, r_2_1, r_2_2, r_2_3, r_2_4, r_2_5, r_2_6, r_2_7, r_2_8, r_2_9, r_2_10, r_10_0, r_10_1, r_137_0, r_137_1, r_137_2, r_138_0, r_140_0, r_142_0, r_146_0, r_146_1, r_146_2, r_146_3, r_152_0, r_154_0, r_154_1, r_158_0, zrI, zrL, zrR, ne_eq, true_and, and_true, true_or, or_true, not_true_eq_false, not_false_eq_true, false_and, and_false, forall_const, true_implies, false_implies, implies_true, reduceCtorEq, Int.reduceEq, Int.reduceNe, Int.reduceLT, Int.reduceLE, Int.reduceNeg, Nat.reduceEqDiff, if_true, if_false, reduceIte, Int.reduceMul, Int.reduceAdd, Int.reduceSub]
  have hI := ((h.fr f1 (fun a w => by omega)).fr f2 (fun a w => by omega)).moved f3
  refine t_put hI d0 d1 (rdL_Pt (by unfold bdS at he3 he; omega)) w1 (fun ξ j1 j2 => ?_)
  simp only [zrI, zrL, zrR, ne_eq, true_and, and_true, true_or, or_true, not_true_eq_false, not_false_eq_true, false_and, and_false, forall_const, true_implies, false_implies, implies_true, reduceCtorEq, Int.reduceEq, Int.reduceNe, Int.reduceLT, Int.reduceLE, Int.reduceNeg, Nat.reduceEqDiff, if_true, if_false, reduceIte, Int.reduceMul, Int.reduceAdd, Int.reduceSub]
  exact q1 (by omega) (by omega) s0 s1 d0 d1 ξ j1 ((((f1.mono (fun a w => Or.inr w)).tr (f2.mono (fun a w => Or.inr (Or.inr w)))).tr (f3.mono (fun a w => Or.inl (by omega)))).tr (j2.mono (fun a w => Or.inl w)))
theorem t_quotient {Q : ZQ} {σ : ZM} {N : List (Int × List Int)} {S : Int → List Int} {t r s d : Int} (h : AI σ S N) (q0 : (t < 2 ∨ 12 < t ∨ r < 0 ∨ t ≤ r ∨ s < 0 ∨ 7 < s ∨ d < 0 ∨ 7 < d) → Q (zi (-2)) σ)
    (q1 : 2 ≤ t → t ≤ 12 → 0 ≤ r → r < t → 0 ≤ s → s ≤ 7 → 0 ≤ d → d ≤ 7 → ∀ σ', AI σ' (upS S d (rdL (runB (bdS (S s) t.toNat) t.toNat r.toNat) (plcN 812 t.toNat r.toNat))) (actN S N d) → Fr ccf σ σ' → Q (zi (rdL (runB (bdS (S s) t.toNat) t.toNat r.toNat) (plcN 812 t.toNat r.toNat)).sum) σ') : WP m_PP_quotient 0 [zr 2, zi t, zi r, zi s, zi d] [] σ (0, 0) Q := by
  refine r_PP_quotient_0 (t_isHookLength (fun t0 t1 => ?_) (fun c => by simp only [zrI, zrL, zrR, ne_eq, true_and, and_true, true_or, or_true, not_true_eq_false, not_false_eq_true, false_and, and_false, forall_const, true_implies, false_implies, implies_true, reduceCtorEq, Int.reduceEq, Int.reduceNe, Int.reduceLT, Int.reduceLE, Int.reduceNeg, Nat.reduceEqDiff, if_true, if_false, reduceIte, Int.reduceMul, Int.reduceAdd, Int.reduceSub]; exact q0 (by omega)))
  simp only [zrI, zrL, zrR, ne_eq, true_and, and_true, true_or, or_true, not_true_eq_false, not_false_eq_true, false_and, and_false, forall_const, true_implies, false_implies, implies_true, reduceCtorEq, Int.reduceEq, Int.reduceNe, Int.reduceLT, Int.reduceLE, Int.reduceNeg, Nat.reduceEqDiff, if_true, if_false, reduceIte, Int.reduceMul, Int.reduceAdd, Int.reduceSub]
  refine ⟨fun c => q0 (by omega), fun r0 => ⟨fun c => q0 (by omega), fun r1 => ?_⟩⟩
  refine t_isSheet (fun s0 s1 => ?_) (fun c => by simp only [zrI, zrL, zrR, ne_eq, true_and, and_true, true_or, or_true, not_true_eq_false, not_false_eq_true, false_and, and_false, forall_const, true_implies, false_implies, implies_true, reduceCtorEq, Int.reduceEq, Int.reduceNe, Int.reduceLT, Int.reduceLE, Int.reduceNeg, Nat.reduceEqDiff, if_true, if_false, reduceIte, Int.reduceMul, Int.reduceAdd, Int.reduceSub]; exact q0 (by omega))
  simp only [zrI, zrL, zrR, ne_eq, true_and, and_true, true_or, or_true, not_true_eq_false, not_false_eq_true, false_and, and_false, forall_const, true_implies, false_implies, implies_true, reduceCtorEq, Int.reduceEq, Int.reduceNe, Int.reduceLT, Int.reduceLE, Int.reduceNeg, Nat.reduceEqDiff, if_true, if_false, reduceIte, Int.reduceMul, Int.reduceAdd, Int.reduceSub]
  refine t_isSheet (fun d0 d1 => ?_) (fun c => by simp only [zrI, zrL, zrR, ne_eq, true_and, and_true, true_or, or_true, not_true_eq_false, not_false_eq_true, false_and, and_false, forall_const, true_implies, false_implies, implies_true, reduceCtorEq, Int.reduceEq, Int.reduceNe, Int.reduceLT, Int.reduceLE, Int.reduceNeg, Nat.reduceEqDiff, if_true, if_false, reduceIte, Int.reduceMul, Int.reduceAdd, Int.reduceSub]; exact q0 (by omega))
  have hS := h.1
  have r3 : zR σ 3 s = 160 + 2 * s.toNat := h.1.2.2 3 s (by unfold rfx; omega)
  obtain ⟨hp, hl⟩ := h.2.2 s s0 s1
  have os := h.1.sumO (isS_sheet s0 s1)
  have hl1 := hl.1
  have et : t = (t.toNat : Int) := by omega
  have er : r = (r.toNat : Int) := by omega
  generalize t.toNat = tn at *
  generalize r.toNat = rn at *
  subst et
  subst er
  have hlen := hp.len
  have h4 := hp.2.1
  simp only [hS, r3, os.1, hl1, zrI, zrL, zrR, Shp_wI, Shp_wJ, zR_wI, zR_wJ, zJ_wI, zI_wJ, zobj_wI, zobj_wJ, zarr_wI, zarr_wJ, zS_wI, zS_wJ, o_2, a_3, a_4, a_5, o_10, a_11, a_12, o_137, o_138, a_139, o_140, a_141, o_142, a_143, o_146, a_147, a_148, a_149, o_152, a_153, o_154, a_157, o_158, a_159, r_2_0, r_2_1, r_2_2, r_2_3, r_2_4, r_2_5, r_2_6, r_2_7, r_2_8, r_2_9, r_2_10, r_10_0, r_10_1, r_137_0, r_137_1, r_137_2, r_138_0, r_140_0, r_142_0, r_146_0, r_146_1, r_146_2, r_146_3, r_152_0, r_154_0, r_154_1, r_158_0, zrI, zrL, zrR, ne_eq, true_and, and_true, true_or, or_true, not_true_eq_false, not_false_eq_true, false_and, and_false, forall_const, true_implies, false_implies, implies_true, reduceCtorEq, Int.reduceEq, Int.reduceNe, Int.reduceLT, Int.reduceLE, Int.reduceNeg, Nat.reduceEqDiff, if_true, if_false, reduceIte, Int.reduceMul, Int.reduceAdd, Int.reduceSub]
  refine ⟨Or.inl ⟨by omega, by omega⟩, Or.inl ⟨by omega, by omega⟩, t_abset (t := tn) hS (isS_sheet s0 s1) hp hl (by omega) (by omega) (Nat.le_refl _) (by omega) (fun τ a1 f1 => ?_)⟩
  have hT := f1.shp hS
  have he := bdS_e hp (t := tn) (by omega) (by omega)
  have he2 := run_e' (T := 812) (t := tn) (r := rn) (by omega) (by omega) (by omega) (by omega) a1.2.2
  have he3 : eB (runB (bdS (S s) tn) tn rn) (plcN 812 tn rn) ≤ eB (bdS (S s) tn) 812 := he2
  simp only [hT, zrI, zrL, zrR, Shp_wI, Shp_wJ, zR_wI, zR_wJ, zJ_wI, zI_wJ, zobj_wI, zobj_wJ, zarr_wI, zarr_wJ, zS_wI, zS_wJ, o_2, a_3, a_4, a_5, o_10, a_11, a_12, o_137, o_138, a_139, o_140, a_141, o_142, a_143, o_146, a_147, a_148, a_149, o_152, a_153, o_154, a_157, o_158, a_159, r_2_0, r_2_1, r_2_2, r_2_3, r_2_4, r_2_5, r_2_6, r_2_7, r_2_8, r_2_9, r_2_10, r_10_0, r_10_1, r_137_0, r_137_1, r_137_2, r_138_0, r_140_0, r_142_0, r_146_0, r_146_1, r_146_2, r_146_3, r_152_0, r_154_0, r_154_1, r_158_0, zrI, zrL, zrR, ne_eq, true_and, and_true, true_or, or_true, not_true_eq_false, not_false_eq_true, false_and, and_false, forall_const, true_implies, false_implies, implies_true, reduceCtorEq, Int.reduceEq, Int.reduceNe, Int.reduceLT, Int.reduceLE, Int.reduceNeg, Nat.reduceEqDiff, if_true, if_false, reduceIte, Int.reduceMul, Int.reduceAdd, Int.reduceSub]
  refine r_Abacus_readRunner_0 ?_
  simp only [hT, a1.1, zrI, zrL, zrR, Shp_wI, Shp_wJ, zR_wI, zR_wJ, zJ_wI, zI_wJ, zobj_wI, zobj_wJ, zarr_wI, zarr_wJ, zS_wI, zS_wJ, o_2, a_3, a_4, a_5, o_10, a_11, a_12, o_137, o_138, a_139, o_140, a_141, o_142, a_143, o_146, a_147, a_148, a_149, o_152, a_153, o_154, a_157, o_158, a_159, r_2_0, r_2_1, r_2_2, r_2_3, r_2_4, r_2_5, r_2_6, r_2_7, r_2_8, r_2_9, r_2_10, r_10_0, r_10_1, r_137_0, r_137_1, r_137_2, r_138_0, r_140_0, r_142_0, r_146_0, r_146_1, r_146_2, r_146_3, r_152_0, r_154_0, r_154_1, r_158_0, zrI, zrL, zrR, ne_eq, true_and, and_true, true_or, or_true, not_true_eq_false, not_false_eq_true, false_and, and_false, forall_const, true_implies, false_implies, implies_true, reduceCtorEq, Int.reduceEq, Int.reduceNe, Int.reduceLT, Int.reduceLE, Int.reduceNeg, Nat.reduceEqDiff, if_true, if_false, reduceIte, Int.reduceMul, Int.reduceAdd, Int.reduceSub]
  refine t_readEvery (st := tn) (r := rn) hT a1 (by omega) (by omega) (by omega) (by unfold bdS at he3 he; omega) (fun ω w1 f3 => ?_)
  have hO := f3.shp hT
  simp only [hO, zrI, zrL, zrR, Shp_wI, Shp_wJ, zR_wI, zR_wJ, zJ_wI, zI_wJ, zobj_wI, zobj_wJ, zarr_wI, zarr_wJ, zS_wI, zS_wJ, o_2, a_3, a_4, a_5, o_10, a_11, a_12, o_137, o_138, a_139, o_140, a_141, o_142, a_143, o_146, a_147, a_148, a_149, o_152, a_153, o_154, a_157, o_158, a_159, r_2_0, r_2_1, r_2_2, r_2_3, r_2_4, r_2_5, r_2_6, r_2_7, r_2_8, r_2_9, r_2_10, r_10_0, r_10_1, r_137_0, r_137_1, r_137_2, r_138_0, r_140_0, r_142_0, r_146_0, r_146_1, r_146_2, r_146_3, r_152_0, r_154_0, r_154_1, r_158_0, zrI, zrL, zrR, ne_eq, true_and, and_true, true_or, or_true, not_true_eq_false, not_false_eq_true, false_and, and_false, forall_const, true_implies, false_implies, implies_true, reduceCtorEq, Int.reduceEq, Int.reduceNe, Int.reduceLT, Int.reduceLE, Int.reduceNeg, Nat.reduceEqDiff, if_true, if_false, reduceIte, Int.reduceMul, Int.reduceAdd, Int.reduceSub]
  have hI := (h.fr f1 (fun a w => by omega)).moved f3
  refine t_put hI d0 d1 (rdL_Pt (by unfold bdS at he3 he; omega)) w1 (fun ξ j1 j2 => ?_)
  simp only [zrI, zrL, zrR, ne_eq, true_and, and_true, true_or, or_true, not_true_eq_false, not_false_eq_true, false_and, and_false, forall_const, true_implies, false_implies, implies_true, reduceCtorEq, Int.reduceEq, Int.reduceNe, Int.reduceLT, Int.reduceLE, Int.reduceNeg, Nat.reduceEqDiff, if_true, if_false, reduceIte, Int.reduceMul, Int.reduceAdd, Int.reduceSub]
  exact q1 (by omega) (by omega) (by omega) (by omega) s0 s1 d0 d1 ξ j1 (((f1.mono (fun a w => Or.inr w)).tr (f3.mono (fun a w => Or.inl (by omega)))).tr (j2.mono (fun a w => Or.inl w)))
theorem t_peel {Q : ZQ} {σ : ZM} {N : List (Int × List Int)} {S : Int → List Int} {t s : Int} (h : AI σ S N) (q0 : (t < 2 ∨ 12 < t ∨ s < 0 ∨ 7 < s) → Q (zi (-2)) σ)
    (q2 : 2 ≤ t → t ≤ 12 → 0 ≤ s → s ≤ 7 → NoB (bdS (S s) t.toNat) t.toNat → ∀ σ', AI σ' S N → Fr ccf σ σ' → Q (zi 0) σ')
    (q1 : 2 ≤ t → t ≤ 12 → 0 ≤ s → s ≤ 7 → ∀ p, p < 812 → PkB (bdS (S s) t.toNat) t.toNat p → ∀ σ', AI σ' (upS S s (rdL (dnB (bdS (S s) t.toNat) t.toNat p) 812)) (actN S N s) → Fr ccf σ σ' → Q (zi 1) σ') : WP m_PP_peel 0 [zr 2, zi t, zi s] [] σ (0, 0) Q := by
  refine r_PP_peel_0 (t_isHookLength (fun t0 t1 => ?_) (fun c => by simp only [zrI, zrL, zrR, ne_eq, true_and, and_true, true_or, or_true, not_true_eq_false, not_false_eq_true, false_and, and_false, forall_const, true_implies, false_implies, implies_true, reduceCtorEq, Int.reduceEq, Int.reduceNe, Int.reduceLT, Int.reduceLE, Int.reduceNeg, Nat.reduceEqDiff, if_true, if_false, reduceIte, Int.reduceMul, Int.reduceAdd, Int.reduceSub]; exact q0 (by omega)))
  simp only [zrI, zrL, zrR, ne_eq, true_and, and_true, true_or, or_true, not_true_eq_false, not_false_eq_true, false_and, and_false, forall_const, true_implies, false_implies, implies_true, reduceCtorEq, Int.reduceEq, Int.reduceNe, Int.reduceLT, Int.reduceLE, Int.reduceNeg, Nat.reduceEqDiff, if_true, if_false, reduceIte, Int.reduceMul, Int.reduceAdd, Int.reduceSub]
  refine t_isSheet (fun s0 s1 => ?_) (fun c => by simp only [zrI, zrL, zrR, ne_eq, true_and, and_true, true_or, or_true, not_true_eq_false, not_false_eq_true, false_and, and_false, forall_const, true_implies, false_implies, implies_true, reduceCtorEq, Int.reduceEq, Int.reduceNe, Int.reduceLT, Int.reduceLE, Int.reduceNeg, Nat.reduceEqDiff, if_true, if_false, reduceIte, Int.reduceMul, Int.reduceAdd, Int.reduceSub]; exact q0 (by omega))
  have hS := h.1
  have r3 : zR σ 3 s = 160 + 2 * s.toNat := h.1.2.2 3 s (by unfold rfx; omega)
  obtain ⟨hp, hl⟩ := h.2.2 s s0 s1
  have os := h.1.sumO (isS_sheet s0 s1)
  have hl1 := hl.1
  have et : t = (t.toNat : Int) := by omega
  generalize t.toNat = tn at *
  subst et
  have hlen := hp.len
  have h4 := hp.2.1
  simp only [hS, r3, os.1, hl1, zrI, zrL, zrR, Shp_wI, Shp_wJ, zR_wI, zR_wJ, zJ_wI, zI_wJ, zobj_wI, zobj_wJ, zarr_wI, zarr_wJ, zS_wI, zS_wJ, o_2, a_3, a_4, a_5, o_10, a_11, a_12, o_137, o_138, a_139, o_140, a_141, o_142, a_143, o_146, a_147, a_148, a_149, o_152, a_153, o_154, a_157, o_158, a_159, r_2_0, r_2_1, r_2_2, r_2_3, r_2_4, r_2_5, r_2_6, r_2_7, r_2_8, r_2_9, r_2_10, r_10_0, r_10_1, r_137_0, r_137_1, r_137_2, r_138_0, r_140_0, r_142_0, r_146_0, r_146_1, r_146_2, r_146_3, r_152_0, r_154_0, r_154_1, r_158_0, zrI, zrL, zrR, ne_eq, true_and, and_true, true_or, or_true, not_true_eq_false, not_false_eq_true, false_and, and_false, forall_const, true_implies, false_implies, implies_true, reduceCtorEq, Int.reduceEq, Int.reduceNe, Int.reduceLT, Int.reduceLE, Int.reduceNeg, Nat.reduceEqDiff, if_true, if_false, reduceIte, Int.reduceMul, Int.reduceAdd, Int.reduceSub]
  refine ⟨Or.inl ⟨by omega, by omega⟩, Or.inl ⟨by omega, by omega⟩, t_abset (t := tn) hS (isS_sheet s0 s1) hp hl (by omega) (by omega) (Nat.le_refl _) (by omega) (fun τ a1 f1 => ?_)⟩
  have hT := f1.shp hS
  have hIT := h.fr f1 (fun a w => by omega)
  have he := bdS_e hp (t := tn) (by omega) (by omega)
  simp only [hT, zrI, zrL, zrR, Shp_wI, Shp_wJ, zR_wI, zR_wJ, zJ_wI, zI_wJ, zobj_wI, zobj_wJ, zarr_wI, zarr_wJ, zS_wI, zS_wJ, o_2, a_3, a_4, a_5, o_10, a_11, a_12, o_137, o_138, a_139, o_140, a_141, o_142, a_143, o_146, a_147, a_148, a_149, o_152, a_153, o_154, a_157, o_158, a_159, r_2_0, r_2_1, r_2_2, r_2_3, r_2_4, r_2_5, r_2_6, r_2_7, r_2_8, r_2_9, r_2_10, r_10_0, r_10_1, r_137_0, r_137_1, r_137_2, r_138_0, r_140_0, r_142_0, r_146_0, r_146_1, r_146_2, r_146_3, r_152_0, r_154_0, r_154_1, r_158_0, zrI, zrL, zrR, ne_eq, true_and, and_true, true_or, or_true, not_true_eq_false, not_false_eq_true, false_and, and_false, forall_const, true_implies, false_implies, implies_true, reduceCtorEq, Int.reduceEq, Int.reduceNe, Int.reduceLT, Int.reduceLE, Int.reduceNeg, Nat.reduceEqDiff, if_true, if_false, reduceIte, Int.reduceMul, Int.reduceAdd, Int.reduceSub]
  refine t_dropOne hT a1 (by omega) (by omega) (fun hn => ?_) (fun p hp8 hpk υ a2 f2 => ?_)
  · simp only [zrI, zrL, zrR, ne_eq, true_and, and_true, true_or, or_true, not_true_eq_false, not_false_eq_true, false_and, and_false, forall_const, true_implies, false_implies, implies_true, reduceCtorEq, Int.reduceEq, Int.reduceNe, Int.reduceLT, Int.reduceLE, Int.reduceNeg, Nat.reduceEqDiff, if_true, if_false, reduceIte, Int.reduceMul, Int.reduceAdd, Int.reduceSub]
    exact q2 (by omega) (by omega) s0 s1 hn τ hIT (f1.mono (fun a w => Or.inr w))
  · have hU := f2.shp hT
    have he3 : eB (dnB (bdS (S s) tn) tn p) 812 ≤ eB (bdS (S s) tn) 812 := dnB_e (by omega) hp8 hpk
    simp only [hU, zrI, zrL, zrR, Shp_wI, Shp_wJ, zR_wI, zR_wJ, zJ_wI, zI_wJ, zobj_wI, zobj_wJ, zarr_wI, zarr_wJ, zS_wI, zS_wJ, o_2, a_3, a_4, a_5, o_10, a_11, a_12, o_137, o_138, a_139, o_140, a_141, o_142, a_143, o_146, a_147, a_148, a_149, o_152, a_153, o_154, a_157, o_158, a_159, r_2_0, r_2_1, r_2_2, r_2_3, r_2_4, r_2_5, r_2_6, r_2_7, r_2_8, r_2_9, r_2_10, r_10_0, r_10_1, r_137_0, r_137_1, r_137_2, r_138_0, r_140_0, r_142_0, r_146_0, r_146_1, r_146_2, r_146_3, r_152_0, r_154_0, r_154_1, r_158_0, zrI, zrL, zrR, ne_eq, true_and, and_true, true_or, or_true, not_true_eq_false, not_false_eq_true, false_and, and_false, forall_const, true_implies, false_implies, implies_true, reduceCtorEq, Int.reduceEq, Int.reduceNe, Int.reduceLT, Int.reduceLE, Int.reduceNeg, Nat.reduceEqDiff, if_true, if_false, reduceIte, Int.reduceMul, Int.reduceAdd, Int.reduceSub]
    refine t_abread hU a2 (by unfold bdS at he3 he; omega) (fun ω w1 f3 => ?_)
    have hO := f3.shp hU
    simp only [hO, zrI, zrL, zrR, Shp_wI, Shp_wJ, zR_wI, zR_wJ, zJ_wI, zI_wJ, zobj_wI, zobj_wJ, zarr_wI, zarr_wJ, zS_wI, zS_wJ, o_2, a_3, a_4, a_5, o_10, a_11, a_12, o_137, o_138, a_139, o_140, a_141, o_142, a_143, o_146, a_147, a_148, a_149, o_152, a_153, o_154, a_157, o_158, a_159, r_2_0, r_2_1, r_2_2, r_2_3, r_2_4, r_2_5, r_2_6, r_2_7, r_2_8, r_2_9, r_2_10, r_10_0, r_10_1, r_137_0, r_137_1, r_137_2, r_138_0, r_140_0, r_142_0, r_146_0, r_146_1, r_146_2, r_146_3, r_152_0, r_154_0, r_154_1, r_158_0, zrI, zrL, zrR, ne_eq, true_and, and_true, true_or, or_true, not_true_eq_false, not_false_eq_true, false_and, and_false, forall_const, true_implies, false_implies, implies_true, reduceCtorEq, Int.reduceEq, Int.reduceNe, Int.reduceLT, Int.reduceLE, Int.reduceNeg, Nat.reduceEqDiff, if_true, if_false, reduceIte, Int.reduceMul, Int.reduceAdd, Int.reduceSub]
    have hI := (hIT.fr f2 (fun a w => by omega)).moved f3
    refine t_put hI s0 s1 (rdL_Pt (by unfold bdS at he3 he; omega)) w1 (fun ξ j1 j2 => ?_)
    simp only [zrI, zrL, zrR, ne_eq, true_and, and_true, true_or, or_true, not_true_eq_false, not_false_eq_true, false_and, and_false, forall_const, true_implies, false_implies, implies_true, reduceCtorEq, Int.reduceEq, Int.reduceNe, Int.reduceLT, Int.reduceLE, Int.reduceNeg, Nat.reduceEqDiff, if_true, if_false, reduceIte, Int.reduceMul, Int.reduceAdd, Int.reduceSub]
    exact q1 (by omega) (by omega) s0 s1 p hp8 hpk ξ j1 ((((f1.mono (fun a w => Or.inr w)).tr (f2.mono (fun a w => Or.inr (Or.inr w)))).tr (f3.mono (fun a w => Or.inl (by omega)))).tr (j2.mono (fun a w => Or.inl w)))
