/-! join, of the class -/
theorem t_lift {Q : ZQ} {σ : ZM} {g t r n : Nat} {B : BF} {l : List Int} (hS : Shp σ) (hg : isS g) (hp : Pt l) (hl : Lz σ g l) (a : AbI σ t B) (t0 : 1 ≤ t) (t1 : t ≤ 12) (hr : r < t) (hn : rcN B t r = n) (hpl : ∀ i, i < n → r + t * fB l n i < 812) (q : ∀ σ', AbI σ' t (liI B t r l n n) → Fr (fun a => a = 153) σ σ' → Q zu σ') : WP m_Abacus_lift 0 [zr 152, zi (r : Int), zr g, zu, zu] [] σ (0, 0) Q := by
  have hgS : g ≠ 153 ∧ g + 1 ≠ 153 := by unfold isS at hg; omega
  have hn8 : n ≤ 812 := by
    have h1 := rcN_le (T := 812) (t := t) (r := r) t0 (by omega) (by omega) a.2.2
    have h2 := plcN_le (T := 812) (t := t) (r := r) t0 (by omega)
    omega
  have k14 : ∀ (m k : Nat) (τ : ZM), k + m = n → AbI τ t (liI B t r l n k) → Fr (fun a => a = 153) σ τ → WP m_Abacus_lift 14 [zr 152, zi (r : Int), zr g, zi (n : Int), zi (k : Int)] [] τ (0, 0) Q := by
    intro m
    induction m with
    | zero =>
      intro k τ hk aT f
      rw [show k = n by omega] at aT
      exact r_Abacus_lift_14 ⟨fun _ => q τ aT f, fun c => by omega⟩
    | succ m ih =>
      intro k τ hk aT f
      have hT := f.shp hS
      have hb := hpl k (by omega)
      have hrg := hp.rng (k : Int)
      have ef : ga l (k : Int) + (n : Int) - 1 - (k : Int) = (fB l n k : Int) := by unfold fB; omega
      have e2 : (fB l n k : Int) * (t : Int) = ((t * fB l n k : Nat) : Int) := by rw [Int.natCast_mul, Int.mul_comm]
      refine r_Abacus_lift_14 ?_
      simp only [hT, (hT.sumO hg).1, zrI, zrL, zrR, Shp_wI, Shp_wJ, zR_wI, zR_wJ, zJ_wI, zI_wJ, zobj_wI, zobj_wJ, zarr_wI, zarr_wJ, zS_wI, zS_wJ, o_2, a_3, a_4, a_5, o_10, a_11, a_12, o_137, o_138, a_139, o_140, a_141, o_142, a_143, o_146, a_147, a_148, a_149, o_152, a_153, o_154, a_157, o_158, a_159, r_2_0, r_2_1, r_2_2, r_2_3, r_2_4, r_2_5, r_2_6, r_2_7, r_2_8, r_2_9, r_2_10, r_10_0, r_10_1, r_137_0, r_137_1, r_137_2, r_138_0, r_140_0, r_142_0, r_146_0, r_146_1, r_146_2, r_146_3, r_152_0, r_154_0, r_154_1, r_158_0, zrI, zrL, zrR, ne_eq, true_and, and_true, true_or, or_true, not_true_eq_false, not_false_eq_true, false_and, and_false, forall_const, true_implies, false_implies, implies_true, reduceCtorEq, Int.reduceEq, Int.reduceNe, Int.reduceLT, Int.reduceLE, Int.reduceNeg, Nat.reduceEqDiff, if_true, if_false, reduceIte, Int.reduceMul, Int.reduceAdd, Int.reduceSub]
      refine ⟨fun c => by omega, fun _ => t_Sum_at (hT.sumO hg) (f.lz (by omega) (by omega) hl) ?_⟩
      simp only [hT, ef, aT.1, e2, zrI, zrL, zrR, Shp_wI, Shp_wJ, zR_wI, zR_wJ, zJ_wI, zI_wJ, zobj_wI, zobj_wJ, zarr_wI, zarr_wJ, zS_wI, zS_wJ, o_2, a_3, a_4, a_5, o_10, a_11, a_12, o_137, o_138, a_139, o_140, a_141, o_142, a_143, o_146, a_147, a_148, a_149, o_152, a_153, o_154, a_157, o_158, a_159, r_2_0, r_2_1, r_2_2, r_2_3, r_2_4, r_2_5, r_2_6, r_2_7, r_2_8, r_2_9, r_2_10, r_10_0, r_10_1, r_137_0, r_137_1, r_137_2, r_138_0, r_140_0, r_142_0, r_146_0, r_146_1, r_146_2, r_146_3, r_152_0, r_154_0, r_154_1, r_158_0, zrI, zrL, zrR, ne_eq, true_and, and_true, true_or, or_true, not_true_eq_false, not_false_eq_true, false_and, and_false, forall_const, true_implies, false_implies, implies_true, reduceCtorEq, Int.reduceEq, Int.reduceNe, Int.reduceLT, Int.reduceLE, Int.reduceNeg, Nat.reduceEqDiff, if_true, if_false, reduceIte, Int.reduceMul, Int.reduceAdd, Int.reduceSub]
      have hf : fB l n k < 400 + n := fB_bd hp (by omega)
      refine ⟨by omega, by omega, by omega, by omega, by omega, ?_⟩
      rw [show ((t * fB l n k : Nat) : Int) + (r : Int) = ((r + t * fB l n k : Nat) : Int) by omega]
      refine t_setBead hT aT hb (fun υ w1 w2 => ⟨by omega, ?_⟩)
      rw [liI_up hr] at w1
      have := ih (k + 1) υ (by omega) w1 (f.tr w2)
      rw [Int.natCast_succ] at this
      exact this
  refine r_Abacus_lift_0 ?_
  simp only [hS, zrI, zrL, zrR, Shp_wI, Shp_wJ, zR_wI, zR_wJ, zJ_wI, zI_wJ, zobj_wI, zobj_wJ, zarr_wI, zarr_wJ, zS_wI, zS_wJ, o_2, a_3, a_4, a_5, o_10, a_11, a_12, o_137, o_138, a_139, o_140, a_141, o_142, a_143, o_146, a_147, a_148, a_149, o_152, a_153, o_154, a_157, o_158, a_159, r_2_0, r_2_1, r_2_2, r_2_3, r_2_4, r_2_5, r_2_6, r_2_7, r_2_8, r_2_9, r_2_10, r_10_0, r_10_1, r_137_0, r_137_1, r_137_2, r_138_0, r_140_0, r_142_0, r_146_0, r_146_1, r_146_2, r_146_3, r_152_0, r_154_0, r_154_1, r_158_0, zrI, zrL, zrR, ne_eq, true_and, and_true, true_or, or_true, not_true_eq_false, not_false_eq_true, false_and, and_false, forall_const, true_implies, false_implies, implies_true, reduceCtorEq, Int.reduceEq, Int.reduceNe, Int.reduceLT, Int.reduceLE, Int.reduceNeg, Nat.reduceEqDiff, if_true, if_false, reduceIte, Int.reduceMul, Int.reduceAdd, Int.reduceSub]
  refine t_beadsOn hS a t0 t1 hr ?_
  simp only [hS, zrI, zrL, zrR, Shp_wI, Shp_wJ, zR_wI, zR_wJ, zJ_wI, zI_wJ, zobj_wI, zobj_wJ, zarr_wI, zarr_wJ, zS_wI, zS_wJ, o_2, a_3, a_4, a_5, o_10, a_11, a_12, o_137, o_138, a_139, o_140, a_141, o_142, a_143, o_146, a_147, a_148, a_149, o_152, a_153, o_154, a_157, o_158, a_159, r_2_0, r_2_1, r_2_2, r_2_3, r_2_4, r_2_5, r_2_6, r_2_7, r_2_8, r_2_9, r_2_10, r_10_0, r_10_1, r_137_0, r_137_1, r_137_2, r_138_0, r_140_0, r_142_0, r_146_0, r_146_1, r_146_2, r_146_3, r_152_0, r_154_0, r_154_1, r_158_0, zrI, zrL, zrR, ne_eq, true_and, and_true, true_or, or_true, not_true_eq_false, not_false_eq_true, false_and, and_false, forall_const, true_implies, false_implies, implies_true, reduceCtorEq, Int.reduceEq, Int.reduceNe, Int.reduceLT, Int.reduceLE, Int.reduceNeg, Nat.reduceEqDiff, if_true, if_false, reduceIte, Int.reduceMul, Int.reduceAdd, Int.reduceSub]
  rw [hn]
  refine t_emptyRunner hS a t0 t1 hr (fun τ w1 w2 => ?_)
  rw [liI_0 (q := l) (n := n)] at w1
  exact k14 n 0 τ (by omega) w1 w2
/-- some square has a hook of t -/
def anyHk (l : List Int) (t : Int) : Prop := ∃ i, 0 ≤ i ∧ i < (l.length : Int) ∧ hasHk l t i
abbrev joB (t s d : Int) : Prop := t < 2 ∨ 12 < t ∨ s < 0 ∨ 7 < s ∨ d < 0 ∨ 8 - t < d ∨ (d ≤ s ∧ s < d + t)
/-- the sums that lift -/
def jq (S : Int → List Int) (d : Int) : Nat → List Int := fun r => S (d + (r : Int))
theorem t_join {Q : ZQ} {σ : ZM} {N : List (Int × List Int)} {S : Int → List Int} {t s d : Int} (h : AI σ S N) (q0 : joB t s d → Q (zi (-2)) σ)
    (q3 : ¬ joB t s d → anyHk (S s) t → Q (zi (-3)) σ)
    (q4 : ¬ joB t s d → ¬ anyHk (S s) t → 400 < (S s).sum.toNat + t.toNat * sQ (jq S d) t.toNat → Q (zi (-4)) σ)
    (q1 : ¬ joB t s d → ¬ anyHk (S s) t → (S s).sum.toNat + t.toNat * sQ (jq S d) t.toNat ≤ 400 → ∀ σ', AI σ' (upS S s (jL (S s) (jq S d) t.toNat)) (actN S N s) → Fr ccf σ σ' → Q (zi (jL (S s) (jq S d) t.toNat).sum) σ') : WP m_PP_join 0 [zr 2, zi t, zi s, zi d, zu, zu] [] σ (0, 0) Q := by
  refine r_PP_join_0 (t_isHookLength (fun t0 t1 => ?_) (fun c => by simp only [zrI, zrL, zrR, ne_eq, true_and, and_true, true_or, or_true, not_true_eq_false, not_false_eq_true, false_and, and_false, forall_const, true_implies, false_implies, implies_true, reduceCtorEq, Int.reduceEq, Int.reduceNe, Int.reduceLT, Int.reduceLE, Int.reduceNeg, Nat.reduceEqDiff, if_true, if_false, reduceIte, Int.reduceMul, Int.reduceAdd, Int.reduceSub]; exact q0 (by omega)))
  simp only [zrI, zrL, zrR, ne_eq, true_and, and_true, true_or, or_true, not_true_eq_false, not_false_eq_true, false_and, and_false, forall_const, true_implies, false_implies, implies_true, reduceCtorEq, Int.reduceEq, Int.reduceNe, Int.reduceLT, Int.reduceLE, Int.reduceNeg, Nat.reduceEqDiff, if_true, if_false, reduceIte, Int.reduceMul, Int.reduceAdd, Int.reduceSub]
  refine t_isSheet (fun s0 s1 => ?_) (fun c => by simp only [zrI, zrL, zrR, ne_eq, true_and, and_true, true_or, or_true, not_true_eq_false, not_false_eq_true, false_and, and_false, forall_const, true_implies, false_implies, implies_true, reduceCtorEq, Int.reduceEq, Int.reduceNe, Int.reduceLT, Int.reduceLE, Int.reduceNeg, Nat.reduceEqDiff, if_true, if_false, reduceIte, Int.reduceMul, Int.reduceAdd, Int.reduceSub]; exact q0 (by omega))
  simp only [zrI, zrL, zrR, ne_eq, true_and, and_true, true_or, or_true, not_true_eq_false, not_false_eq_true, false_and, and_false, forall_const, true_implies, false_implies, implies_true, reduceCtorEq, Int.reduceEq, Int.reduceNe, Int.reduceLT, Int.reduceLE, Int.reduceNeg, Nat.reduceEqDiff, if_true, if_false, reduceIte, Int.reduceMul, Int.reduceAdd, Int.reduceSub]
  refine t_isSheet (fun d0 d1 => ?_) (fun c => by simp only [zrI, zrL, zrR, ne_eq, true_and, and_true, true_or, or_true, not_true_eq_false, not_false_eq_true, false_and, and_false, forall_const, true_implies, false_implies, implies_true, reduceCtorEq, Int.reduceEq, Int.reduceNe, Int.reduceLT, Int.reduceLE, Int.reduceNeg, Nat.reduceEqDiff, if_true, if_false, reduceIte, Int.reduceMul, Int.reduceAdd, Int.reduceSub]; exact q0 (by omega))
  have hS := h.1
  have r3 : ∀ x, 0 ≤ x → x ≤ 7 → zR σ 3 x = 160 + 2 * x.toNat := fun x x0 x1 => h.1.2.2 3 x (by unfold rfx; omega)
  obtain ⟨hp, hl⟩ := h.2.2 s s0 s1
  have os := h.1.sumO (isS_sheet s0 s1)
  have hl2 := hl.2.1
  have et : t = (t.toNat : Int) := by omega
  generalize t.toNat = tn at *
  subst et
  have hlen := hp.len
  have h4 := hp.2.1
  have hs0 := sum_pos (S s) hp.1
  have k140 : d + tn ≤ 8 → JOk (S s) (jq S d) tn (widN 400 tn) → (∀ σ', AI σ' (upS S s (jL (S s) (jq S d) tn)) (actN S N s) → Fr ccf σ σ' → Q (zi (jL (S s) (jq S d) tn).sum) σ') → ∀ (m k : Nat) (τ : ZM) (u4 : PV), k + m = tn → AI τ S N → AbI τ tn (mjB (S s) (jq S d) tn (widN 400 tn) k) → Fr ccf σ τ → WP m_PP_join 140 [zr 2, zi (tn : Int), zi s, zi d, u4, zi (k : Int)] [] τ (0, 0) Q := by
    intro hd8 ok qq m
    induction m with
    | zero =>
      intro k τ u4 hk hI aT f
      have hT := hI.1
      rw [show k = tn by omega, mjB_all (by omega)] at aT
      refine r_PP_join_140 ?_
      simp only [hT, zrI, zrL, zrR, Shp_wI, Shp_wJ, zR_wI, zR_wJ, zJ_wI, zI_wJ, zobj_wI, zobj_wJ, zarr_wI, zarr_wJ, zS_wI, zS_wJ, o_2, a_3, a_4, a_5, o_10, a_11, a_12, o_137, o_138, a_139, o_140, a_141, o_142, a_143, o_146, a_147, a_148, a_149, o_152, a_153, o_154, a_157, o_158, a_159, r_2_0, r_2_1, r_2_2, r_2_3, r_2_4, r_2_5, r_2_6, r_2_7, r_2_8, r_2_9, r_2_10, r_10_0, r_10_1, r_137_0, r_137_1, r_137_2, r_138_0, r_140_0, r_142_0, r_146_0, r_146_1, r_146_2, r_146_3, r_152_0, r_154_0, r_154_1, r_158_0, zrI, zrL, zrR, ne_eq, true_and, and_true, true_or, or_true, not_true_eq_false, not_false_eq_true, false_and, and_false, forall_const, true_implies, false_implies, implies_true, reduceCtorEq, Int.reduceEq, Int.reduceNe, Int.reduceLT, Int.reduceLE, Int.reduceNeg, Nat.reduceEqDiff, if_true, if_false, reduceIte, Int.reduceMul, Int.reduceAdd, Int.reduceSub]
      refine ⟨fun _ => t_abread hT aT (ok.e' (by omega)) (fun ω w1 f3 => ?_), fun c => by omega⟩
      have hO := f3.shp hT
      simp only [hO, zrI, zrL, zrR, Shp_wI, Shp_wJ, zR_wI, zR_wJ, zJ_wI, zI_wJ, zobj_wI, zobj_wJ, zarr_wI, zarr_wJ, zS_wI, zS_wJ, o_2, a_3, a_4, a_5, o_10, a_11, a_12, o_137, o_138, a_139, o_140, a_141, o_142, a_143, o_146, a_147, a_148, a_149, o_152, a_153, o_154, a_157, o_158, a_159, r_2_0, r_2_1, r_2_2, r_2_3, r_2_4, r_2_5, r_2_6, r_2_7, r_2_8, r_2_9, r_2_10, r_10_0, r_10_1, r_137_0, r_137_1, r_137_2, r_138_0, r_140_0, r_142_0, r_146_0, r_146_1, r_146_2, r_146_3, r_152_0, r_154_0, r_154_1, r_158_0, zrI, zrL, zrR, ne_eq, true_and, and_true, true_or, or_true, not_true_eq_false, not_false_eq_true, false_and, and_false, forall_const, true_implies, false_implies, implies_true, reduceCtorEq, Int.reduceEq, Int.reduceNe, Int.reduceLT, Int.reduceLE, Int.reduceNeg, Nat.reduceEqDiff, if_true, if_false, reduceIte, Int.reduceMul, Int.reduceAdd, Int.reduceSub]
      refine t_put (hI.moved f3) s0 s1 (jL_Pt ok) w1 (fun ξ j1 j2 => ?_)
      simp only [zrI, zrL, zrR, ne_eq, true_and, and_true, true_or, or_true, not_true_eq_false, not_false_eq_true, false_and, and_false, forall_const, true_implies, false_implies, implies_true, reduceCtorEq, Int.reduceEq, Int.reduceNe, Int.reduceLT, Int.reduceLE, Int.reduceNeg, Nat.reduceEqDiff, if_true, if_false, reduceIte, Int.reduceMul, Int.reduceAdd, Int.reduceSub]
      exact qq ξ j1 ((f.tr (f3.mono (fun a w => Or.inl (by omega)))).tr (j2.mono (fun a w => Or.inl w)))
    | succ m ih =>
      intro k τ u4 hk hI aT f
      have hT := hI.1
      have x0 : 0 ≤ d + (k : Int) := by omega
      have x1 : d + (k : Int) ≤ 7 := by omega
      have r3T : zR τ 3 (d + (k : Int)) = 160 + 2 * (d + (k : Int)).toNat := hI.1.2.2 3 _ (by unfold rfx; omega)
      obtain ⟨hpk, hlk⟩ := hI.2.2 (d + (k : Int)) x0 x1
      refine r_PP_join_140 ?_
      simp only [hT, r3T, zrI, zrL, zrR, Shp_wI, Shp_wJ, zR_wI, zR_wJ, zJ_wI, zI_wJ, zobj_wI, zobj_wJ, zarr_wI, zarr_wJ, zS_wI, zS_wJ, o_2, a_3, a_4, a_5, o_10, a_11, a_12, o_137, o_138, a_139, o_140, a_141, o_142, a_143, o_146, a_147, a_148, a_149, o_152, a_153, o_154, a_157, o_158, a_159, r_2_0, r_2_1, r_2_2, r_2_3, r_2_4, r_2_5, r_2_6, r_2_7, r_2_8, r_2_9, r_2_10, r_10_0, r_10_1, r_137_0, r_137_1, r_137_2, r_138_0, r_140_0, r_142_0, r_146_0, r_146_1, r_146_2, r_146_3, r_152_0, r_154_0, r_154_1, r_158_0, zrI, zrL, zrR, ne_eq, true_and, and_true, true_or, or_true, not_true_eq_false, not_false_eq_true, false_and, and_false, forall_const, true_implies, false_implies, implies_true, reduceCtorEq, Int.reduceEq, Int.reduceNe, Int.reduceLT, Int.reduceLE, Int.reduceNeg, Nat.reduceEqDiff, if_true, if_false, reduceIte, Int.reduceMul, Int.reduceAdd, Int.reduceSub]
      refine ⟨fun c => by omega, fun _ => ⟨by omega, Or.inl ⟨by omega, by omega⟩, ?_⟩⟩
      refine t_lift (t := tn) (r := k) (n := rcN (stB (S s) (widN 400 tn) (widN 400 tn)) tn k) hT (isS_sheet x0 x1) hpk hlk aT (by omega) (by omega) (by omega) (mjB_rc (by omega)) (fun i hi => ?_) (fun υ w1 w2 => ⟨by omega, ?_⟩)
      · have z1 := ok.plc (r := k) (by omega) hi
        have z2 := ok.hW
        unfold jq at z1
        omega
      · have w1 : AbI υ tn (liI (mjB (S s) (jq S d) tn (widN 400 tn) k) tn k (jq S d k) (rcN (stB (S s) (widN 400 tn) (widN 400 tn)) tn k) (rcN (stB (S s) (widN 400 tn) (widN 400 tn)) tn k)) := w1
        rw [mjB_li] at w1
        have := ih (k + 1) υ (zkill u4) (by omega) (hI.fr w2 (fun a w => by omega)) w1 (f.tr (w2.mono (fun a w => Or.inr (Or.inr w))))
        rw [Int.natCast_succ] at this
        exact this
  have k78 : ¬ joB (tn : Int) s d → ¬ anyHk (S s) tn → ∀ (m k : Nat), k + m = tn → WP m_PP_join 78 [zr 2, zi (tn : Int), zi s, zi d, zi (((S s).sum.toNat + tn * sN (fun r => (jq S d r).sum.toNat) k : Nat) : Int), zi (k : Int)] [] σ (0, 0) Q := by
    intro hj hh m
    have hd8 : d + tn ≤ 8 := by omega
    have hpq : ∀ r : Nat, r < tn → Pt (jq S d r) := fun r hr => (h.2.2 (d + (r : Int)) (by omega) (by omega)).1
    induction m with
    | zero =>
      intro k hk
      rw [show k = tn by omega]
      have hW := widN_bd (n := 400) (t := tn) (by omega)
      refine r_PP_join_78 ?_
      simp only [hS, r3 s s0 s1, zrI, zrL, zrR, Shp_wI, Shp_wJ, zR_wI, zR_wJ, zJ_wI, zI_wJ, zobj_wI, zobj_wJ, zarr_wI, zarr_wJ, zS_wI, zS_wJ, o_2, a_3, a_4, a_5, o_10, a_11, a_12, o_137, o_138, a_139, o_140, a_141, o_142, a_143, o_146, a_147, a_148, a_149, o_152, a_153, o_154, a_157, o_158, a_159, r_2_0, r_2_1, r_2_2, r_2_3, r_2_4, r_2_5, r_2_6, r_2_7, r_2_8, r_2_9, r_2_10, r_10_0, r_10_1, r_137_0, r_137_1, r_137_2, r_138_0, r_140_0, r_142_0, r_146_0, r_146_1, r_146_2, r_146_3, r_152_0, r_154_0, r_154_1, r_158_0, zrI, zrL, zrR, ne_eq, true_and, and_true, true_or, or_true, not_true_eq_false, not_false_eq_true, false_and, and_false, forall_const, true_implies, false_implies, implies_true, reduceCtorEq, Int.reduceEq, Int.reduceNe, Int.reduceLT, Int.reduceLE, Int.reduceNeg, Nat.reduceEqDiff, if_true, if_false, reduceIte, Int.reduceMul, Int.reduceAdd, Int.reduceSub]
      refine ⟨fun _ => ⟨fun c => ⟨Or.inl ⟨by omega, by omega⟩, ?_⟩, fun c => q4 hj hh (by unfold sQ; omega)⟩, fun c => by omega⟩
      have hs' : (S s).sum.toNat + tn * sQ (jq S d) tn ≤ 400 := by unfold sQ; omega
      have ok : JOk (S s) (jq S d) tn (widN 400 tn) := ⟨by omega, by omega, hp, by omega, by omega, fun r hr => ⟨hpq r hr, low_rc hr (by omega) (by
        have := JOk.len hp (hpq r hr) hs' hr
        omega)⟩, hs'⟩
      refine t_abset (t := tn) (n := 400) hS (isS_sheet s0 s1) hp hl (by omega) (by omega) (by omega) (by omega) (fun τ a1 f1 => ?_)
      rw [← mjB_0 (q := jq S d) (t := tn)] at a1
      exact k140 hd8 ok (q1 hj hh hs') tn 0 τ _ (by omega) (h.fr f1 (fun a w => by omega)) a1 (f1.mono (fun a w => Or.inr w))
    | succ m ih =>
      intro k hk
      have x0 : 0 ≤ d + (k : Int) := by omega
      have x1 : d + (k : Int) ≤ 7 := by omega
      obtain ⟨hpk, hlk⟩ := h.2.2 (d + (k : Int)) x0 x1
      have okk := h.1.sumO (isS_sheet x0 x1)
      have hl2k := hlk.2.1
      have hk0 := sum_pos _ hpk.1
      have hk4 := hpk.2.1
      have esn : sN (fun r => (jq S d r).sum.toNat) (k + 1) = sN (fun r => (jq S d r).sum.toNat) k + (S (d + (k : Int))).sum.toNat := rfl
      have hb : sN (fun r => (jq S d r).sum.toNat) k ≤ 400 * k := by
        have h1 : ∀ j, j ≤ tn → sN (fun r => (jq S d r).sum.toNat) j ≤ 400 * j := by
          intro j
          induction j with
          | zero => intro _; exact Nat.le_refl _
          | succ j ihj =>
            intro hj
            have := ihj (by omega)
            have h2 := (hpq j (by omega)).2.1
            have h3 : sN (fun r => (jq S d r).sum.toNat) (j + 1) = sN (fun r => (jq S d r).sum.toNat) j + (jq S d j).sum.toNat := rfl
            omega
        exact h1 k (by omega)
      have hb2 : tn * sN (fun r => (jq S d r).sum.toNat) k ≤ 12 * 4800 := Nat.mul_le_mul (by omega) (by omega)
      have hb3 : tn * (S (d + (k : Int))).sum.toNat ≤ 12 * 400 := Nat.mul_le_mul (by omega) (by omega)
      have ihk := ih (k + 1) (by omega)
      rw [esn, Nat.mul_add] at ihk
      have em : (tn : Int) * (S (d + (k : Int))).sum = ((tn * (S (d + (k : Int))).sum.toNat : Nat) : Int) := by rw [Int.natCast_mul, Int.toNat_of_nonneg (by omega)]
      rw [show (((S s).sum.toNat + (tn * sN (fun r => (jq S d r).sum.toNat) k + tn * (S (d + (k : Int))).sum.toNat) : Nat) : Int) = (((S s).sum.toNat + tn * sN (fun r => (jq S d r).sum.toNat) k : Nat) : Int) + ((tn * (S (d + (k : Int))).sum.toNat : Nat) : Int) by omega, Int.natCast_succ] at ihk
      refine r_PP_join_78 ?_
      simp only [hS, r3 _ x0 x1, okk.1, hl2k, em, zrI, zrL, zrR, Shp_wI, Shp_wJ, zR_wI, zR_wJ, zJ_wI, zI_wJ, zobj_wI, zobj_wJ, zarr_wI, zarr_wJ, zS_wI, zS_wJ, o_2, a_3, a_4, a_5, o_10, a_11, a_12, o_137, o_138, a_139, o_140, a_141, o_142, a_143, o_146, a_147, a_148, a_149, o_152, a_153, o_154, a_157, o_158, a_159, r_2_0, r_2_1, r_2_2, r_2_3, r_2_4, r_2_5, r_2_6, r_2_7, r_2_8, r_2_9, r_2_10, r_10_0, r_10_1, r_137_0, r_137_1, r_137_2, r_138_0, r_140_0, r_142_0, r_146_0, r_146_1, r_146_2, r_146_3, r_152_0, r_154_0, r_154_1, r_158_0, zrI, zrL, zrR, ne_eq, true_and, and_true, true_or, or_true, not_true_eq_false, not_false_eq_true, false_and, and_false, forall_const, true_implies, false_implies, implies_true, reduceCtorEq, Int.reduceEq, Int.reduceNe, Int.reduceLT, Int.reduceLE, Int.reduceNeg, Nat.reduceEqDiff, if_true, if_false, reduceIte, Int.reduceMul, Int.reduceAdd, Int.reduceSub]
      exact ⟨fun c => by omega, fun _ => ⟨by omega, Or.inl ⟨by omega, by omega⟩, by omega, by omega, by omega, ihk⟩⟩
  have fin : ¬ joB (tn : Int) s d → ∀ r, RowHk (S s) tn r → (r = -1 → WP m_PP_join 78 [zr 2, zi (tn : Int), zi s, zi d, zi (S s).sum, zi 0] [] σ (0, 0) Q) ∧ (¬ r = -1 → Q (zi (-3)) σ) := fun hj r hr => by
    rcases hr with ⟨e, hn⟩ | ⟨r0, r1, r2, _⟩
    · refine ⟨fun _ => ?_, fun c => absurd e c⟩
      have := k78 hj (fun ⟨i, i0, i1, w⟩ => hn i i0 i1 w) tn 0 (by omega)
      rw [show (((S s).sum.toNat + tn * sN (fun r => (jq S d r).sum.toNat) 0 : Nat) : Int) = (S s).sum by show (((S s).sum.toNat + tn * 0 : Nat) : Int) = _; omega] at this
      exact this
    · exact ⟨fun c => by omega, fun _ => q3 hj ⟨r, r0, r1, r2⟩⟩
  simp only [hS, r3 s s0 s1, os.1, zrI, zrL, zrR, Shp_wI, Shp_wJ, zR_wI, zR_wJ, zJ_wI, zI_wJ, zobj_wI, zobj_wJ, zarr_wI, zarr_wJ, zS_wI, zS_wJ, o_2, a_3, a_4, a_5, o_10, a_11, a_12, o_137, o_138, a_139, o_140, a_141, o_142, a_143, o_146, a_147, a_148, a_149, o_152, a_153, o_154, a_157, o_158, a_159, r_2_0, r_2_1, r_2_2, r_2_3, r_2_4, r_2_5, r_2_6, r_2_7, r_2_8, r_2_9, r_2_10, r_10_0, r_10_1, r_137_0, r_137_1, r_137_2, r_138_0, r_140_0, r_142_0, r_146_0, r_146_1, r_146_2, r_146_3, r_152_0, r_154_0, r_154_1, r_158_0, zrI, zrL, zrR, ne_eq, true_and, and_true, true_or, or_true, not_true_eq_false, not_false_eq_true, false_and, and_false, forall_const, true_implies, false_implies, implies_true, reduceCtorEq, Int.reduceEq, Int.reduceNe, Int.reduceLT, Int.reduceLE, Int.reduceNeg, Nat.reduceEqDiff, if_true, if_false, reduceIte, Int.reduceMul, Int.reduceAdd, Int.reduceSub]
  refine ⟨by omega, fun c1 => ⟨fun c2 => ⟨Or.inl ⟨by omega, by omega⟩, ?_⟩, fun c2 => ⟨by omega, fun c3 => ⟨Or.inl ⟨by omega, by omega⟩, ?_⟩, fun c3 => q0 (by omega)⟩⟩, fun c1 => q0 (by omega)⟩
  · refine t_Sum_firstRowWithHook os hp hl (fun r hr => ?_)
    have z := fin (by omega) r hr
    simp only [hS, r3 s s0 s1, os.1, hl2, zrI, zrL, zrR, Shp_wI, Shp_wJ, zR_wI, zR_wJ, zJ_wI, zI_wJ, zobj_wI, zobj_wJ, zarr_wI, zarr_wJ, zS_wI, zS_wJ, o_2, a_3, a_4, a_5, o_10, a_11, a_12, o_137, o_138, a_139, o_140, a_141, o_142, a_143, o_146, a_147, a_148, a_149, o_152, a_153, o_154, a_157, o_158, a_159, r_2_0, r_2_1, r_2_2, r_2_3, r_2_4, r_2_5, r_2_6, r_2_7, r_2_8, r_2_9, r_2_10, r_10_0, r_10_1, r_137_0, r_137_1, r_137_2, r_138_0, r_140_0, r_142_0, r_146_0, r_146_1, r_146_2, r_146_3, r_152_0, r_154_0, r_154_1, r_158_0, zrI, zrL, zrR, ne_eq, true_and, and_true, true_or, or_true, not_true_eq_false, not_false_eq_true, false_and, and_false, forall_const, true_implies, false_implies, implies_true, reduceCtorEq, Int.reduceEq, Int.reduceNe, Int.reduceLT, Int.reduceLE, Int.reduceNeg, Nat.reduceEqDiff, if_true, if_false, reduceIte, Int.reduceMul, Int.reduceAdd, Int.reduceSub]
    exact ⟨fun e => ⟨Or.inl ⟨by omega, by omega⟩, z.1 e⟩, z.2⟩
  · refine t_Sum_firstRowWithHook os hp hl (fun r hr => ?_)
    have z := fin (by omega) r hr
    simp only [hS, r3 s s0 s1, os.1, hl2, zrI, zrL, zrR, Shp_wI, Shp_wJ, zR_wI, zR_wJ, zJ_wI, zI_wJ, zobj_wI, zobj_wJ, zarr_wI, zarr_wJ, zS_wI, zS_wJ, o_2, a_3, a_4, a_5, o_10, a_11, a_12, o_137, o_138, a_139, o_140, a_141, o_142, a_143, o_146, a_147, a_148, a_149, o_152, a_153, o_154, a_157, o_158, a_159, r_2_0, r_2_1, r_2_2, r_2_3, r_2_4, r_2_5, r_2_6, r_2_7, r_2_8, r_2_9, r_2_10, r_10_0, r_10_1, r_137_0, r_137_1, r_137_2, r_138_0, r_140_0, r_142_0, r_146_0, r_146_1, r_146_2, r_146_3, r_152_0, r_154_0, r_154_1, r_158_0, zrI, zrL, zrR, ne_eq, true_and, and_true, true_or, or_true, not_true_eq_false, not_false_eq_true, false_and, and_false, forall_const, true_implies, false_implies, implies_true, reduceCtorEq, Int.reduceEq, Int.reduceNe, Int.reduceLT, Int.reduceLE, Int.reduceNeg, Nat.reduceEqDiff, if_true, if_false, reduceIte, Int.reduceMul, Int.reduceAdd, Int.reduceSub]
    exact ⟨fun e => ⟨Or.inl ⟨by omega, by omega⟩, z.1 e⟩, z.2⟩
