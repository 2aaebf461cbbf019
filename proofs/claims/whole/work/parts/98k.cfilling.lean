/-! filling, class -/
def Pk (l : List Int) (x i y : Int) : Prop := 0 ≤ i ∧ i < (l.length : Int) ∧ ga l (i + 1) < ga l i ∧ y = x - sm (cwF l) i.toNat ∧ 0 ≤ y ∧ y < (FN (shr l i) : Int)
theorem cwF_ge (l : List Int) (i : Int) : 0 ≤ cwF l i := by
  unfold cwF
  split <;> omega
theorem Pk.uniq {l : List Int} {x i y i' y' : Int} (h : Pk l x i y) (h' : Pk l x i' y') : i = i' ∧ y = y' := by
  have key : ∀ i i' y y', Pk l x i y → Pk l x i' y' → ¬ i < i' := fun i i' y y' ⟨a0, a1, a2, a3, a4, a5⟩ ⟨b0, b1, b2, b3, b4, b5⟩ w => by
    have h1 := sm_le (F := cwF l) (n := i'.toNat) (fun j _ _ => cwF_ge l j) (i'.toNat - (i.toNat + 1)) (i.toNat + 1) (by omega)
    have h2 : sm (cwF l) (i.toNat + 1) = sm (cwF l) i.toNat + cwF l ((i.toNat : Nat) : Int) := rfl
    have h3 : cwF l ((i.toNat : Nat) : Int) = (FN (shr l i) : Int) := by
      rw [show ((i.toNat : Nat) : Int) = i by omega]
      unfold cwF
      rw [if_pos a2]
    omega
  have k1 := key i i' y y' h h'
  have k2 := key i' i y' y h' h
  have e : i = i' := by omega
  refine ⟨e, ?_⟩
  rw [h.2.2.2.1, h'.2.2.2.1, e]
def FlR : Nat → List Int → Int → Int → Prop
  | 0, _, _, _ => False
  | k + 1, l, x, r => ∃ i y, Pk l x i y ∧ ((k = 0 → r = i) ∧ (1 ≤ k → FlR k (shr l i) y r))
theorem FlR.uniq : ∀ (k : Nat) {l : List Int} {x r r' : Int}, FlR k l x r → FlR k l x r' → r = r'
  | 0, _, _, _, _, h, _ => h.elim
  | k + 1, l, x, r, r', ⟨i, y, h1, h2, h3⟩, ⟨i', y', h1', h2', h3'⟩ => by
    obtain ⟨e1, e2⟩ := h1.uniq h1'
    subst e1
    subst e2
    by_cases c : k = 0
    · rw [h2 c, h2' c]
    · exact FlR.uniq k (h3 (by omega)) (h3' (by omega))
theorem i64 {x : Int} (h0 : 0 ≤ x) (h1 : x < 9223372036854775808) : (Int64.ofInt x).toInt = x := Int64.toInt_ofInt_of_le (by omega) (by omega)
theorem t_takeGreatest {Q : ZQ} {σ : ZM} {l : List Int} {x : Int} (hS : Shp σ) (hl : Lz σ 155 l) (hp : Pt l) (hs : l.sum ≤ 30) (h1 : 1 ≤ l.sum) (hx : zJ σ 154 2 = Int64.ofInt x) (x0 : 0 ≤ x) (x1 : x < (FN l : Int)) (q : ∀ i y, Pk l x i y → ∀ σ', Lz σ' 155 (shr l i) → zJ σ' 154 2 = Int64.ofInt y → Fr fwf σ σ' → Q (zi i) σ') : WP m_Filler_takeGreatest 0 [zr 154, zu, zu, zu] [] σ (0, 0) Q := by
  have hi : isS 155 := by unfold isS; omega
  have hlen := hp.len
  have br := branch hp hs h1
  have hF := (FN_ok hp hs).2.2
  have k2 : ∀ (e i : Nat) (u2 u3 : PV) (τ : ZM), i + e = l.length → 0 ≤ x - sm (cwF l) i → Lz τ 155 l → zJ τ 154 2 = Int64.ofInt (x - sm (cwF l) i) → Fr fwf σ τ → WP m_Filler_takeGreatest 2 [zr 154, zi (i : Int), u2, u3] [] τ (0, 0) Q := by
    intro e
    induction e with
    | zero =>
      intro i u2 u3 τ hie hy hlT hxT f1
      rw [show i = l.length by omega] at hy
      omega
    | succ e ih =>
      intro i u2 u3 τ hie hy hlT hxT f1
      have hT := f1.shp hS
      have hlT1 := hlT.1
      have es : sm (cwF l) (i + 1) = sm (cwF l) i + cwF l (i : Int) := rfl
      have sge := sm_ge0 (f := cwF l) i (fun j _ _ => cwF_ge l j)
      refine r_Filler_takeGreatest_2 ?_
      simp only [hT, (hT.sumO hi).1, hlT1, zrI, zrL, zrR, Shp_wI, Shp_wJ, zR_wI, zR_wJ, zJ_wI, zI_wJ, zobj_wI, zobj_wJ, zarr_wI, zarr_wJ, zS_wI, zS_wJ, o_2, a_3, a_4, a_5, o_10, a_11, a_12, o_137, o_138, a_139, o_140, a_141, o_142, a_143, o_146, a_147, a_148, a_149, o_152, a_153, o_154, a_157, o_158, a_159, r_2_0, r_2_1, r_2_2, r_2_3, r_2_4, r_2_5, r_2_6, r_2_7, r_2_8, r_2_9, r_2_10, r_10_0, r_10_1, r_137_0, r_137_1, r_137_2, r_138_0, r_140_0, r_142_0, r_146_0, r_146_1, r_146_2, r_146_3, r_152_0, r_154_0, r_154_1, r_158_0, zrI, zrL, zrR, ne_eq, true_and, and_true, true_or, or_true, not_true_eq_false, not_false_eq_true, false_and, and_false, forall_const, true_implies, false_implies, implies_true, reduceCtorEq, Int.reduceEq, Int.reduceNe, Int.reduceLT, Int.reduceLE, Int.reduceNeg, Nat.reduceEqDiff, if_true, if_false, reduceIte, Int.reduceMul, Int.reduceAdd, Int.reduceSub]
      refine ⟨fun w => by omega, fun _ => t_Sum_isCorner (hT.sumO hi) hlT (by omega) (fun c => ?_) (fun c => ?_)⟩
      · have ec : cwF l (i : Int) = (FN (shr l (i : Int)) : Int) := by unfold cwF; rw [if_pos c]
        have ps := Pt_shr l hp i c
        have oF := (FN_ok ps.1 (by omega)).2.2
        simp only [hT, (hT.sumO hi).1, zrI, zrL, zrR, Shp_wI, Shp_wJ, zR_wI, zR_wJ, zJ_wI, zI_wJ, zobj_wI, zobj_wJ, zarr_wI, zarr_wJ, zS_wI, zS_wJ, o_2, a_3, a_4, a_5, o_10, a_11, a_12, o_137, o_138, a_139, o_140, a_141, o_142, a_143, o_146, a_147, a_148, a_149, o_152, a_153, o_154, a_157, o_158, a_159, r_2_0, r_2_1, r_2_2, r_2_3, r_2_4, r_2_5, r_2_6, r_2_7, r_2_8, r_2_9, r_2_10, r_10_0, r_10_1, r_137_0, r_137_1, r_137_2, r_138_0, r_140_0, r_142_0, r_146_0, r_146_1, r_146_2, r_146_3, r_152_0, r_154_0, r_154_1, r_158_0, zrI, zrL, zrR, ne_eq, true_and, and_true, true_or, or_true, not_true_eq_false, not_false_eq_true, false_and, and_false, forall_const, true_implies, false_implies, implies_true, reduceCtorEq, Int.reduceEq, Int.reduceNe, Int.reduceLT, Int.reduceLE, Int.reduceNeg, Nat.reduceEqDiff, if_true, if_false, reduceIte, Int.reduceMul, Int.reduceAdd, Int.reduceSub]
        refine t_Sum_shrink (hT.sumO hi) hp hlT (by omega) (by omega) c (fun υ j1 j2 => ?_)
        have hU := j2.shp hT
        have xU : zJ υ 154 2 = Int64.ofInt (x - sm (cwF l) i) := by rw [(j2.2.2.2 154 (by omega)).2]; exact hxT
        simp only [hU, zrI, zrL, zrR, Shp_wI, Shp_wJ, zR_wI, zR_wJ, zJ_wI, zI_wJ, zobj_wI, zobj_wJ, zarr_wI, zarr_wJ, zS_wI, zS_wJ, o_2, a_3, a_4, a_5, o_10, a_11, a_12, o_137, o_138, a_139, o_140, a_141, o_142, a_143, o_146, a_147, a_148, a_149, o_152, a_153, o_154, a_157, o_158, a_159, r_2_0, r_2_1, r_2_2, r_2_3, r_2_4, r_2_5, r_2_6, r_2_7, r_2_8, r_2_9, r_2_10, r_10_0, r_10_1, r_137_0, r_137_1, r_137_2, r_138_0, r_140_0, r_142_0, r_146_0, r_146_1, r_146_2, r_146_3, r_152_0, r_154_0, r_154_1, r_158_0, zrI, zrL, zrR, ne_eq, true_and, and_true, true_or, or_true, not_true_eq_false, not_false_eq_true, false_and, and_false, forall_const, true_implies, false_implies, implies_true, reduceCtorEq, Int.reduceEq, Int.reduceNe, Int.reduceLT, Int.reduceLE, Int.reduceNeg, Nat.reduceEqDiff, if_true, if_false, reduceIte, Int.reduceMul, Int.reduceAdd, Int.reduceSub]
        refine t_ways hU hi (by omega) j1 ps.1 (by omega) (fun ξ w1 => ?_)
        have hX := w1.shp hU
        have lX := w1.lz (by omega) (by omega) j1
        have xX : zJ ξ 154 2 = Int64.ofInt (x - sm (cwF l) i) := by rw [(w1.2.2.2 154 (by omega)).2]; exact xU
        have f2 : Fr fwf σ ξ := (f1.tr (j2.mono (fun a w => by omega))).tr (w1.mono (fun a w => by omega))
        rw [fj_FN]
        simp only [hX, xX, (hX.sumO hi).1, zrI, zrL, zrR, Shp_wI, Shp_wJ, zR_wI, zR_wJ, zJ_wI, zI_wJ, zobj_wI, zobj_wJ, zarr_wI, zarr_wJ, zS_wI, zS_wJ, o_2, a_3, a_4, a_5, o_10, a_11, a_12, o_137, o_138, a_139, o_140, a_141, o_142, a_143, o_146, a_147, a_148, a_149, o_152, a_153, o_154, a_157, o_158, a_159, r_2_0, r_2_1, r_2_2, r_2_3, r_2_4, r_2_5, r_2_6, r_2_7, r_2_8, r_2_9, r_2_10, r_10_0, r_10_1, r_137_0, r_137_1, r_137_2, r_138_0, r_140_0, r_142_0, r_146_0, r_146_1, r_146_2, r_146_3, r_152_0, r_154_0, r_154_1, r_158_0, zrI, zrL, zrR, ne_eq, true_and, and_true, true_or, or_true, not_true_eq_false, not_false_eq_true, false_and, and_false, forall_const, true_implies, false_implies, implies_true, reduceCtorEq, Int.reduceEq, Int.reduceNe, Int.reduceLT, Int.reduceLE, Int.reduceNeg, Nat.reduceEqDiff, if_true, if_false, reduceIte, Int.reduceMul, Int.reduceAdd, Int.reduceSub]
        have lt := zlcmp_lt (x := Int64.ofInt (x - sm (cwF l) i)) (y := Int64.ofInt (FN (shr l (i : Int)) : Int))
        rw [i64 hy (by omega), i64 (by omega) (by omega)] at lt
        refine ⟨fun w => ?_, fun w => ?_⟩
        · have ge : (FN (shr l (i : Int)) : Int) ≤ x - sm (cwF l) i := by
            rcases Int.lt_or_le (x - sm (cwF l) i) (FN (shr l (i : Int)) : Int) with v | v
            · have := lt.mpr v
              omega
            · exact v
          rw [← Int64.ofInt_sub]
          have hX2 : Shp (wJ ξ 154 2 (Int64.ofInt (x - sm (cwF l) i - (FN (shr l (i : Int)) : Int)))) := (Fr.wJ (P := fwf) (by omega) : Fr fwf ξ _).shp hX
          have f3 : Fr (fun a => a = 154) ξ (wJ ξ 154 2 (Int64.ofInt (x - sm (cwF l) i - (FN (shr l (i : Int)) : Int)))) := Fr.wJ rfl
          refine t_Sum_grow (hX2.sumO hi) hp (by omega) (by omega) c (f3.lz (by omega) (by omega) lX) (fun ζ g1 g2 => ⟨by omega, ?_⟩)
          have := ih (i + 1) (zl (Int64.ofInt (FN (shr l (i : Int)) : Int))) zu ζ (by omega) (by omega) g1 (by
            rw [(g2.2.2.2 154 (by omega)).2, zJ_wJ, if_pos ⟨rfl, rfl⟩]
            congr 1
            omega) ((f2.tr (f3.mono (fun a w => by omega))).tr (g2.mono (fun a w => by omega)))
          rw [Int.natCast_succ] at this
          exact this
        · have v := lt.mp w
          refine q (i : Int) (x - sm (cwF l) i) ⟨by omega, by omega, c, by rw [Int.toNat_natCast], hy, v⟩ ξ lX xX f2
      · have ec : cwF l (i : Int) = 0 := by unfold cwF; rw [if_neg (by omega)]
        simp only [zrI, zrL, zrR, ne_eq, true_and, and_true, true_or, or_true, not_true_eq_false, not_false_eq_true, false_and, and_false, forall_const, true_implies, false_implies, implies_true, reduceCtorEq, Int.reduceEq, Int.reduceNe, Int.reduceLT, Int.reduceLE, Int.reduceNeg, Nat.reduceEqDiff, if_true, if_false, reduceIte, Int.reduceMul, Int.reduceAdd, Int.reduceSub]
        have := ih (i + 1) u2 u3 τ (by omega) (by omega) hlT (by rw [hxT, es, ec, Int.add_zero]) f1
        rw [Int.natCast_succ] at this
        exact ⟨by omega, this⟩
  refine r_Filler_takeGreatest_0 (k2 l.length 0 _ _ σ (by omega) (by show 0 ≤ x - 0; omega) hl (by rw [hx]; show _ = Int64.ofInt (x - 0); rw [Int.sub_zero]) Fr.rf)
theorem t_rowOf {Q : ZQ} {σ : ZM} {g : Nat} {l : List Int} {x v : Int} (hS : Shp σ) (hg : isS g) (hg5 : 160 ≤ g) (hl : Lz σ g l) (hp : Pt l) (hs : l.sum ≤ 30) (v1 : 1 ≤ v) (v2 : v ≤ l.sum) (x0 : 0 ≤ x) (x1 : x < (FN l : Int)) (q : ∀ r, FlR (l.sum - v + 1).toNat l x r → ∀ σ', Fr fwf σ σ' → Q (zi r) σ') : WP m_Filler_rowOf 0 [zr 154, zr g, zl (Int64.ofInt x), zu, zi v, zu, zu] [] σ (0, 0) Q := by
  have hi : isS 155 := by unfold isS; omega
  have k22 : ∀ (k : Nat) (l : List Int) (x x5 : Int) (u1 u2 : PV) (τ : ZM), l.sum = v + k - 1 → Pt l → l.sum ≤ 30 → Lz τ 155 l → zJ τ 154 2 = Int64.ofInt x → 0 ≤ x → x < (FN l : Int) → Fr fwf σ τ → (∀ r, (k = 0 → r = x5) → (1 ≤ k → FlR k l x r) → ∀ σ', Fr fwf σ σ' → Q (zi r) σ') → WP m_Filler_rowOf 22 [zr 154, u1, u2, zu, zi v, zi x5, zi l.sum] [] τ (0, 0) Q := by
    intro k
    induction k with
    | zero =>
      intro l x x5 u1 u2 τ hk hp hs hlT hxT x0 x1 f1 q
      exact r_Filler_rowOf_22 ⟨fun _ => q x5 (fun _ => rfl) (fun w => by omega) τ f1, fun w => by omega⟩
    | succ k ih =>
      intro l x x5 u1 u2 τ hk hp hs hlT hxT x0 x1 f1 q
      have hT := f1.shp hS
      refine r_Filler_rowOf_22 ?_
      simp only [hT, zrI, zrL, zrR, Shp_wI, Shp_wJ, zR_wI, zR_wJ, zJ_wI, zI_wJ, zobj_wI, zobj_wJ, zarr_wI, zarr_wJ, zS_wI, zS_wJ, o_2, a_3, a_4, a_5, o_10, a_11, a_12, o_137, o_138, a_139, o_140, a_141, o_142, a_143, o_146, a_147, a_148, a_149, o_152, a_153, o_154, a_157, o_158, a_159, r_2_0, r_2_1, r_2_2, r_2_3, r_2_4, r_2_5, r_2_6, r_2_7, r_2_8, r_2_9, r_2_10, r_10_0, r_10_1, r_137_0, r_137_1, r_137_2, r_138_0, r_140_0, r_142_0, r_146_0, r_146_1, r_146_2, r_146_3, r_152_0, r_154_0, r_154_1, r_158_0, zrI, zrL, zrR, ne_eq, true_and, and_true, true_or, or_true, not_true_eq_false, not_false_eq_true, false_and, and_false, forall_const, true_implies, false_implies, implies_true, reduceCtorEq, Int.reduceEq, Int.reduceNe, Int.reduceLT, Int.reduceLE, Int.reduceNeg, Nat.reduceEqDiff, if_true, if_false, reduceIte, Int.reduceMul, Int.reduceAdd, Int.reduceSub]
      refine ⟨fun w => by omega, fun _ => t_takeGreatest hT hlT hp hs (by omega) hxT x0 x1 (fun i y hpk υ j1 j2 j3 => ?_)⟩
      have hpk' := hpk
      obtain ⟨i0, i1, ic, ey, y0, y1⟩ := hpk'
      have ps := Pt_shr l hp i.toNat (by rw [show ((i.toNat : Nat) : Int) = i by omega]; exact ic)
      rw [show ((i.toNat : Nat) : Int) = i by omega] at ps
      simp only [zrI, zrL, zrR, ne_eq, true_and, and_true, true_or, or_true, not_true_eq_false, not_false_eq_true, false_and, and_false, forall_const, true_implies, false_implies, implies_true, reduceCtorEq, Int.reduceEq, Int.reduceNe, Int.reduceLT, Int.reduceLE, Int.reduceNeg, Nat.reduceEqDiff, if_true, if_false, reduceIte, Int.reduceMul, Int.reduceAdd, Int.reduceSub]
      have := ih (shr l i) y i u1 u2 υ (by omega) ps.1 (by omega) j1 j2 y0 y1 (f1.tr j3) (fun r a1 a2 σ' f => q r (fun w => by omega) (fun _ => ⟨i, y, hpk, a1, a2⟩) σ' f)
      rw [ps.2.1] at this
      exact ⟨by omega, this⟩
  have og := hS.sumO hg
  refine r_Filler_rowOf_0 ?_
  simp only [hS, (hS.sumO hi).1, zrI, zrL, zrR, Shp_wI, Shp_wJ, zR_wI, zR_wJ, zJ_wI, zI_wJ, zobj_wI, zobj_wJ, zarr_wI, zarr_wJ, zS_wI, zS_wJ, o_2, a_3, a_4, a_5, o_10, a_11, a_12, o_137, o_138, a_139, o_140, a_141, o_142, a_143, o_146, a_147, a_148, a_149, o_152, a_153, o_154, a_157, o_158, a_159, r_2_0, r_2_1, r_2_2, r_2_3, r_2_4, r_2_5, r_2_6, r_2_7, r_2_8, r_2_9, r_2_10, r_10_0, r_10_1, r_137_0, r_137_1, r_137_2, r_138_0, r_140_0, r_142_0, r_146_0, r_146_1, r_146_2, r_146_3, r_152_0, r_154_0, r_154_1, r_158_0, zrI, zrL, zrR, ne_eq, true_and, and_true, true_or, or_true, not_true_eq_false, not_false_eq_true, false_and, and_false, forall_const, true_implies, false_implies, implies_true, reduceCtorEq, Int.reduceEq, Int.reduceNe, Int.reduceLT, Int.reduceLE, Int.reduceNeg, Nat.reduceEqDiff, if_true, if_false, reduceIte, Int.reduceMul, Int.reduceAdd, Int.reduceSub]
  refine t_Sum_take (by omega) hp (hS.sumO hi) og hl (fun τ w1 w2 => ?_)
  have hT := w2.shp hS
  have f3 : Fr (fun a => a = 154) τ (wJ τ 154 2 (Int64.ofInt x)) := Fr.wJ rfl
  have hT3 := f3.shp hT
  have hl2 := (w2.lz (by omega) (by omega) hl).2.1
  simp only [hT, (hT.sumO hg).1, hl2, zrI, zrL, zrR, Shp_wI, Shp_wJ, zR_wI, zR_wJ, zJ_wI, zI_wJ, zobj_wI, zobj_wJ, zarr_wI, zarr_wJ, zS_wI, zS_wJ, o_2, a_3, a_4, a_5, o_10, a_11, a_12, o_137, o_138, a_139, o_140, a_141, o_142, a_143, o_146, a_147, a_148, a_149, o_152, a_153, o_154, a_157, o_158, a_159, r_2_0, r_2_1, r_2_2, r_2_3, r_2_4, r_2_5, r_2_6, r_2_7, r_2_8, r_2_9, r_2_10, r_10_0, r_10_1, r_137_0, r_137_1, r_137_2, r_138_0, r_140_0, r_142_0, r_146_0, r_146_1, r_146_2, r_146_3, r_152_0, r_154_0, r_154_1, r_158_0, zrI, zrL, zrR, ne_eq, true_and, and_true, true_or, or_true, not_true_eq_false, not_false_eq_true, false_and, and_false, forall_const, true_implies, false_implies, implies_true, reduceCtorEq, Int.reduceEq, Int.reduceNe, Int.reduceLT, Int.reduceLE, Int.reduceNeg, Nat.reduceEqDiff, if_true, if_false, reduceIte, Int.reduceMul, Int.reduceAdd, Int.reduceSub]
  refine k22 (l.sum - v + 1).toNat l x 0 _ _ _ (by omega) hp hs (f3.lz (by omega) (by omega) w1) (by rw [zJ_wJ, if_pos ⟨rfl, rfl⟩]) x0 x1 ((w2.mono (fun a w => by omega)).tr (f3.mono (fun a w => by omega))) (fun r a1 a2 σ' f => q r (a2 (by omega)) σ' f)
theorem t_filling {Q : ZQ} {σ : ZM} {N : List (Int × List Int)} {S : Int → List Int} {s v : Int} {x : Int64} (h : AI σ S N) (q0 : (s < 0 ∨ 7 < s ∨ 30 < (S s).sum ∨ v < 1 ∨ (S s).sum < v) → Q (zi (-2)) σ)
    (q2 : 0 ≤ s → s ≤ 7 → (S s).sum ≤ 30 → 1 ≤ v → v ≤ (S s).sum → (x.toInt < 0 ∨ (FN (S s) : Int) ≤ x.toInt) → ∀ σ', AI σ' S N → Fr fwf σ σ' → Q (zi (-2)) σ')
    (q1 : 0 ≤ s → s ≤ 7 → (S s).sum ≤ 30 → 1 ≤ v → v ≤ (S s).sum → 0 ≤ x.toInt → x.toInt < (FN (S s) : Int) → ∀ r, FlR ((S s).sum - v + 1).toNat (S s) x.toInt r → ∀ σ', AI σ' S N → Fr fwf σ σ' → Q (zi r) σ') : WP m_PP_filling 0 [zr 2, zi s, zl x, zu, zi v] [] σ (0, 0) Q := by
  refine r_PP_filling_0 (t_isSheet (fun s0 s1 => ?_) (fun c => by simp only [zrI, zrL, zrR, ne_eq, true_and, and_true, true_or, or_true, not_true_eq_false, not_false_eq_true, false_and, and_false, forall_const, true_implies, false_implies, implies_true, reduceCtorEq, Int.reduceEq, Int.reduceNe, Int.reduceLT, Int.reduceLE, Int.reduceNeg, Nat.reduceEqDiff, if_true, if_false, reduceIte, Int.reduceMul, Int.reduceAdd, Int.reduceSub]; exact q0 (by omega)))
  have hS := h.1
  have r3 : zR σ 3 s = 160 + 2 * s.toNat := h.1.2.2 3 s (by unfold rfx; omega)
  obtain ⟨hp, hl⟩ := h.2.2 s s0 s1
  have os := h.1.sumO (isS_sheet s0 s1)
  have hl2 := hl.2.1
  have lt0 := zlcmp_lt (x := x) (y := 0)
  rw [show (0 : Int64).toInt = 0 by rfl] at lt0
  simp only [hS, r3, os.1, hl2, zrI, zrL, zrR, Shp_wI, Shp_wJ, zR_wI, zR_wJ, zJ_wI, zI_wJ, zobj_wI, zobj_wJ, zarr_wI, zarr_wJ, zS_wI, zS_wJ, o_2, a_3, a_4, a_5, o_10, a_11, a_12, o_137, o_138, a_139, o_140, a_141, o_142, a_143, o_146, a_147, a_148, a_149, o_152, a_153, o_154, a_157, o_158, a_159, r_2_0, r_2_1, r_2_2, r_2_3, r_2_4, r_2_5, r_2_6, r_2_7, r_2_8, r_2_9, r_2_10, r_10_0, r_10_1, r_137_0, r_137_1, r_137_2, r_138_0, r_140_0, r_142_0, r_146_0, r_146_1, r_146_2, r_146_3, r_152_0, r_154_0, r_154_1, r_158_0, zrI, zrL, zrR, ne_eq, true_and, and_true, true_or, or_true, not_true_eq_false, not_false_eq_true, false_and, and_false, forall_const, true_implies, false_implies, implies_true, reduceCtorEq, Int.reduceEq, Int.reduceNe, Int.reduceLT, Int.reduceLE, Int.reduceNeg, Nat.reduceEqDiff, if_true, if_false, reduceIte, Int.reduceMul, Int.reduceAdd, Int.reduceSub]
  refine ⟨Or.inl ⟨by omega, by omega⟩, fun c => q0 (Or.inr (Or.inr (Or.inl c))), fun c => ⟨fun c1 => q0 (by omega), fun c1 => ⟨Or.inl ⟨by omega, by omega⟩, fun c2 => ⟨fun c3 => q2 s0 s1 c c1 c2 (Or.inl (lt0.mp c3)) σ h Fr.rf, fun c3 => ⟨Or.inl ⟨by omega, by omega⟩, t_ways hS (isS_sheet s0 s1) (by omega) hl hp c (fun τ f1 => ?_)⟩⟩, fun c2 => q0 (Or.inr (Or.inr (Or.inr (Or.inr c2))))⟩⟩⟩
  have xn : 0 ≤ x.toInt := by
    rcases Int.lt_or_le x.toInt 0 with w | w
    · have := lt0.mpr w
      omega
    · exact w
  have hT := f1.shp hS
  have hIT := h.frw f1 (fun a w => by omega)
  have r4 : zR τ 3 s = 160 + 2 * s.toNat := hT.2.2 3 s (by unfold rfx; omega)
  have oF := (FN_ok hp c).2.2
  have lt := zlcmp_lt (x := x) (y := Int64.ofInt (FN (S s) : Int))
  rw [i64 (x := (FN (S s) : Int)) (by omega) (by omega)] at lt
  rw [fj_FN]
  simp only [hT, r4, zrI, zrL, zrR, Shp_wI, Shp_wJ, zR_wI, zR_wJ, zJ_wI, zI_wJ, zobj_wI, zobj_wJ, zarr_wI, zarr_wJ, zS_wI, zS_wJ, o_2, a_3, a_4, a_5, o_10, a_11, a_12, o_137, o_138, a_139, o_140, a_141, o_142, a_143, o_146, a_147, a_148, a_149, o_152, a_153, o_154, a_157, o_158, a_159, r_2_0, r_2_1, r_2_2, r_2_3, r_2_4, r_2_5, r_2_6, r_2_7, r_2_8, r_2_9, r_2_10, r_10_0, r_10_1, r_137_0, r_137_1, r_137_2, r_138_0, r_140_0, r_142_0, r_146_0, r_146_1, r_146_2, r_146_3, r_152_0, r_154_0, r_154_1, r_158_0, zrI, zrL, zrR, ne_eq, true_and, and_true, true_or, or_true, not_true_eq_false, not_false_eq_true, false_and, and_false, forall_const, true_implies, false_implies, implies_true, reduceCtorEq, Int.reduceEq, Int.reduceNe, Int.reduceLT, Int.reduceLE, Int.reduceNeg, Nat.reduceEqDiff, if_true, if_false, reduceIte, Int.reduceMul, Int.reduceAdd, Int.reduceSub]
  refine ⟨fun c4 => ⟨Or.inl ⟨by omega, by omega⟩, ?_⟩, fun c4 => q2 s0 s1 c c1 c2 (Or.inr ?_) τ hIT (f1.mono (fun a w => by omega))⟩
  · have xe : x = Int64.ofInt x.toInt := (Int64.ofInt_toInt x).symm
    have key := t_rowOf (Q := fun r7 σ8 => zrI r7 (fun y9 => Q (zi y9) σ8)) (x := x.toInt) (v := v) hT (isS_sheet s0 s1) (by omega) (hIT.2.2 s s0 s1).2 hp c c1 c2 xn (lt.mp c4) (fun r hr υ f2 => q1 s0 s1 c c1 c2 xn (lt.mp c4) r hr υ (hIT.frw f2 (fun a w => by omega)) ((f1.mono (fun a w => by omega)).tr f2))
    rw [← xe] at key
    exact key
  · rcases Int.lt_or_le x.toInt (FN (S s) : Int) with w | w
    · have := lt.mpr w
      omega
    · exact w
