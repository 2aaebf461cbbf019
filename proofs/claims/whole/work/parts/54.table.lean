/-! Table, of the class -/
def tri : Nat → Nat
  | 0 => 0
  | n + 1 => tri n + (n + 1)
theorem tri_two : ∀ n : Nat, n * (n + 1) = 2 * tri n
  | 0 => rfl
  | n + 1 => by
    have ih := tri_two n
    show (n + 1) * (n + 1 + 1) = 2 * (tri n + (n + 1))
    have : (n + 1) * (n + 1 + 1) = n * (n + 1) + 2 * (n + 1) := by
      rw [← Nat.add_mul, Nat.mul_comm]
    omega
theorem tri_lt : ∀ {n m : Nat}, n < m → tri n + n < tri m
  | n, 0, h => by omega
  | n, m + 1, h => by
    show tri n + n < tri m + (m + 1)
    by_cases e : n = m
    · rw [e]; omega
    · have := tri_lt (show n < m by omega)
      omega
theorem tri_le {n : Nat} (h : n ≤ 400) : tri n ≤ 80200 := by
  by_cases e : n = 400
  · have h2 : tri 400 = 80200 := by decide +kernel
    rw [e, h2]
    exact Nat.le_refl _
  · have h1 := tri_lt (show n < 400 by omega)
    have h2 : tri 400 = 80200 := by decide +kernel
    omega
theorem tri_inj {n m k j : Nat} (hk : k ≤ n) (hj : j ≤ m) (h : tri n + k = tri m + j) : n = m ∧ k = j := by
  rcases Nat.lt_trichotomy n m with e | e | e
  · have := tri_lt e; omega
  · rw [e] at h; omega
  · have := tri_lt e; omega
theorem tri_int (n : Nat) : (n : Int) * ((n : Int) + 1) = 2 * (tri n : Int) := by
  have := tri_two n
  have h : ((n * (n + 1) : Nat) : Int) = ((2 * tri n : Nat) : Int) := by rw [this]
  rw [Int.natCast_mul, Int.natCast_mul, Int.natCast_succ] at h
  exact h
theorem tri_div (n : Nat) : Int.tdiv (2 * (tri n : Int)) 2 = (tri n : Int) := by
  rw [Int.tdiv_eq_ediv_of_nonneg (by omega)]
  omega
def alB (w : LW) (v : Nat) : Bool := decide (w 0 = 0 ∨ zand (zshr (w 2) (Int.tmod (v : Int) (w 1))) 1 ≠ 0)
theorem alB_iff {w : LW} {v : Nat} : alB w v = true ↔ alP w (v : Int) := by
  unfold alB alP
  exact decide_eq_true_iff
theorem alB_not {w : LW} {v : Nat} : alB w v = false ↔ ¬ alP w (v : Int) := by
  rw [← alB_iff]
  simp
def gapF (w : LW) (v : Nat) : Nat := (gapN w (v : Int)).toNat
/-- SUMS of n with no part above k, by the laws 0, 1, 2 -/
def tabN (w : LW) (k n : Nat) : Nat := if w 0 = 2 then GB (gapF w) (w 4).toNat k n else TB (alB w) (timesN w).toNat k n
theorem tabN_clip {w : LW} {k n : Nat} (h : n ≤ k) : tabN w k n = tabN w n n := by
  unfold tabN
  split
  · exact GB_clip h
  · exact TB_clip h
theorem tabN_zero {w : LW} {n : Nat} : tabN w 0 n = if n = 0 then 1 else 0 := by
  unfold tabN
  split
  · exact GB_zero
  · rfl
theorem timesN_bd {w : LW} (ok : lawOK w) (hw : w 0 = 0 ∨ w 0 = 1) : 1 ≤ timesN w ∧ timesN w ≤ 400 := by
  unfold lawOK canB at ok
  unfold timesN
  split <;> omega
/-- the rows up to f are good for the law w -/
def TabV (σ : ZM) (w : LW) (f : Int) : Prop := ∀ n k : Nat, (n : Int) ≤ f → n ≤ 400 → k ≤ n → zJ σ 139 ((tri n : Int) + (k : Int)) = Int64.ofNat (tabN w k n)
theorem t_Table_at {Q : ZQ} {σ : ZM} {w : LW} {n k f : Int} (hS : Shp σ) (hT : TabV σ w f) (hn : n ≤ f) (hn4 : n ≤ 400) (q : Q (zl (if n < 0 then 0 else Int64.ofNat (tabN w k.toNat n.toNat))) σ) : WP m_Table_at 0 [zr 138, zi n, zi k, zu] [] σ (0, 0) Q := by
  by_cases c : n < 0
  · rw [if_pos c] at q
    exact r_Table_at_0 ⟨fun _ => q, fun c2 => absurd c2 (by omega)⟩
  · rw [if_neg c] at q
    obtain ⟨m, rfl⟩ := Int.eq_ofNat_of_zero_le (show 0 ≤ n by omega)
    rw [Int.toNat_natCast] at q
    have h1 := tri_le (show m ≤ 400 by omega)
    refine r_Table_at_0 ?_
    simp only [hS, tri_int, tri_div, zrI, zrL, zrR, Shp_wI, Shp_wJ, zR_wI, zR_wJ, zJ_wI, zI_wJ, zobj_wI, zobj_wJ, zarr_wI, zarr_wJ, zS_wI, zS_wJ, o_2, a_3, a_4, a_5, o_10, a_11, a_12, o_137, o_138, a_139, o_140, a_141, o_142, a_143, o_146, a_147, a_148, a_149, o_152, a_153, o_154, a_157, o_158, a_159, r_2_0, r_2_1, r_2_2, r_2_3, r_2_4, r_2_5, r_2_6, r_2_7, r_2_8, r_2_9, r_2_10, r_10_0, r_10_1, r_137_0, r_137_1, r_137_2, r_138_0, r_140_0, r_142_0, r_146_0, r_146_1, r_146_2, r_146_3, r_152_0, r_154_0, r_154_1, r_158_0, zrI, zrL, zrR, ne_eq, true_and, and_true, true_or, or_true, not_true_eq_false, not_false_eq_true, false_and, and_false, forall_const, true_implies, false_implies, implies_true, reduceCtorEq, Int.reduceEq, Int.reduceNe, Int.reduceLT, Int.reduceLE, Int.reduceNeg, Nat.reduceEqDiff, if_true, if_false, reduceIte, Int.reduceMul, Int.reduceAdd, Int.reduceSub]
    repeat' first | omega | exact Or.inl (by omega) | apply And.intro | refine fun (_ : _ ≤ _) => ?_ | refine fun (_ : _ < _) => ?_ | refine fun (_ : _ = _) => ?_ | refine fun (_ : ¬ (_ = _)) => ?_ | refine fun (_ : _ ∨ _) => ?_
    · obtain ⟨j, rfl⟩ := Int.eq_ofNat_of_zero_le (show 0 ≤ k by omega)
      rw [hT m j hn (by omega) (by omega)]
      rw [Int.toNat_natCast] at q
      exact q
    · rw [hT m m hn (by omega) (Nat.le_refl _)]
      rw [tabN_clip (by omega)] at q
      exact q
    · have := hT m 0 hn (by omega) (by omega)
      rw [show ((0 : Nat) : Int) = 0 from rfl] at this
      rw [this]
      rw [show k.toNat = 0 by omega] at q
      exact q
theorem sub_of {a b c d : Nat} (h : a + d = b + c) : Int64.ofNat c - Int64.ofNat d = Int64.ofNat a - Int64.ofNat b := by
  have h2 : Int64.ofNat a + Int64.ofNat d = Int64.ofNat b + Int64.ofNat c := by rw [← Int64.ofNat_add, ← Int64.ofNat_add, h]
  grind
theorem t_beginningWith {Q : ZQ} {σ : ZM} {w : LW} {h : Nat} {n k : Nat} (hS : Shp σ) (hh : isL h) (p : LawP σ h w) (ok : lawOK w) (hw : w 0 ≤ 2) (hT : TabV σ w ((n : Int) - 1)) (k1 : 1 ≤ k) (kn : k ≤ n) (n4 : n ≤ 400) (q : Q (zl (Int64.ofNat (tabN w k n) - Int64.ofNat (tabN w (k - 1) n))) σ) : WP m_Table_beginningWith 0 [zr 138, zr h, zi (n : Int), zi (k : Int)] [] σ (0, 0) Q := by
  obtain ⟨o, o2, o3⟩ := hS.lawO hh
  obtain ⟨k', rfl⟩ : ∃ k', k = k' + 1 := ⟨k - 1, by omega⟩
  rw [show k' + 1 - 1 = k' by omega] at q
  have hw0 : 0 ≤ w 0 := by unfold lawOK canB at ok; omega
  refine r_Table_beginningWith_0 ?_
  simp only [hS, o, p.1, zrI, zrL, zrR, Shp_wI, Shp_wJ, zR_wI, zR_wJ, zJ_wI, zI_wJ, zobj_wI, zobj_wJ, zarr_wI, zarr_wJ, zS_wI, zS_wJ, o_2, a_3, a_4, a_5, o_10, a_11, a_12, o_137, o_138, a_139, o_140, a_141, o_142, a_143, o_146, a_147, a_148, a_149, o_152, a_153, o_154, a_157, o_158, a_159, r_2_0, r_2_1, r_2_2, r_2_3, r_2_4, r_2_5, r_2_6, r_2_7, r_2_8, r_2_9, r_2_10, r_10_0, r_10_1, r_137_0, r_137_1, r_137_2, r_138_0, r_140_0, r_142_0, r_146_0, r_146_1, r_146_2, r_146_3, r_152_0, r_154_0, r_154_1, r_158_0, zrI, zrL, zrR, ne_eq, true_and, and_true, true_or, or_true, not_true_eq_false, not_false_eq_true, false_and, and_false, forall_const, true_implies, false_implies, implies_true, reduceCtorEq, Int.reduceEq, Int.reduceNe, Int.reduceLT, Int.reduceLE, Int.reduceNeg, Nat.reduceEqDiff, if_true, if_false, reduceIte, Int.reduceMul, Int.reduceAdd, Int.reduceSub]
  refine ⟨fun e => ?_, fun e => ⟨fun e2 => ?_, fun e2 => ?_⟩⟩
  · obtain ⟨e3, e4, e5⟩ := p.2.1 e
    have ht := timesN_bd ok (Or.inr e)
    have hw3 : 0 ≤ w 3 ∧ w 3 ≤ 400 := by unfold lawOK canB at ok; omega
    have hmul : (w 3 + 1) * ((k' : Int) + 1) ≤ 401 * 400 ∧ 0 ≤ (w 3 + 1) * ((k' : Int) + 1) := ⟨Int.mul_le_mul (by omega) (by omega) (by omega) (by omega), Int.mul_nonneg (by omega) (by omega)⟩
    have e2 : w 0 ≠ 2 := by omega
    unfold tabN at q
    rw [if_neg e2, if_neg e2] at q
    refine t_hasRest o p ok e (by omega) (by omega) (fun ha => ?_) (fun ha => ?_)
    · have hr := TB_rec (c := (timesN w).toNat) (n := n) (alB_iff.mpr ha) kn
      simp only [hS, zrI, zrL, zrR, Shp_wI, Shp_wJ, zR_wI, zR_wJ, zJ_wI, zI_wJ, zobj_wI, zobj_wJ, zarr_wI, zarr_wJ, zS_wI, zS_wJ, o_2, a_3, a_4, a_5, o_10, a_11, a_12, o_137, o_138, a_139, o_140, a_141, o_142, a_143, o_146, a_147, a_148, a_149, o_152, a_153, o_154, a_157, o_158, a_159, r_2_0, r_2_1, r_2_2, r_2_3, r_2_4, r_2_5, r_2_6, r_2_7, r_2_8, r_2_9, r_2_10, r_10_0, r_10_1, r_137_0, r_137_1, r_137_2, r_138_0, r_140_0, r_142_0, r_146_0, r_146_1, r_146_2, r_146_3, r_152_0, r_154_0, r_154_1, r_158_0, zrI, zrL, zrR, ne_eq, true_and, and_true, true_or, or_true, not_true_eq_false, not_false_eq_true, false_and, and_false, forall_const, true_implies, false_implies, implies_true, reduceCtorEq, Int.reduceEq, Int.reduceNe, Int.reduceLT, Int.reduceLE, Int.reduceNeg, Nat.reduceEqDiff, if_true, if_false, reduceIte, Int.reduceMul, Int.reduceAdd, Int.reduceSub]
      refine ⟨by omega, t_Table_at hS hT (by omega) (by omega) ?_⟩
      simp only [hS, o, e5, zrI, zrL, zrR, Shp_wI, Shp_wJ, zR_wI, zR_wJ, zJ_wI, zI_wJ, zobj_wI, zobj_wJ, zarr_wI, zarr_wJ, zS_wI, zS_wJ, o_2, a_3, a_4, a_5, o_10, a_11, a_12, o_137, o_138, a_139, o_140, a_141, o_142, a_143, o_146, a_147, a_148, a_149, o_152, a_153, o_154, a_157, o_158, a_159, r_2_0, r_2_1, r_2_2, r_2_3, r_2_4, r_2_5, r_2_6, r_2_7, r_2_8, r_2_9, r_2_10, r_10_0, r_10_1, r_137_0, r_137_1, r_137_2, r_138_0, r_140_0, r_142_0, r_146_0, r_146_1, r_146_2, r_146_3, r_152_0, r_154_0, r_154_1, r_158_0, zrI, zrL, zrR, ne_eq, true_and, and_true, true_or, or_true, not_true_eq_false, not_false_eq_true, false_and, and_false, forall_const, true_implies, false_implies, implies_true, reduceCtorEq, Int.reduceEq, Int.reduceNe, Int.reduceLT, Int.reduceLE, Int.reduceNeg, Nat.reduceEqDiff, if_true, if_false, reduceIte, Int.reduceMul, Int.reduceAdd, Int.reduceSub]
      rw [if_neg (by omega), show ((n : Int) - ((k' + 1 : Nat) : Int)).toNat = n - (k' + 1) by omega, Int.toNat_natCast]
      unfold tabN
      rw [if_neg e2]
      refine ⟨fun c => ?_, fun c => ⟨by omega, by rw [Int.natCast_succ]; omega, by rw [Int.natCast_succ]; omega, by omega, t_Table_at hS hT (by rw [Int.natCast_succ]; have := Int.mul_le_mul (show (2 : Int) ≤ w 3 + 1 by omega) (show (1 : Int) ≤ (k' : Int) + 1 by omega) (by omega) (by omega); omega) (by rw [Int.natCast_succ]; omega) ?_⟩⟩
      · have h4 : timesN w = 400 := by unfold timesN; rw [if_pos (by omega)]
        rw [h4] at hr q ⊢
        rw [if_neg (by have := Nat.mul_le_mul (Nat.le_refl ((400 : Int).toNat + 1)) (show 1 ≤ k' + 1 by omega); have : (400 : Int).toNat = 400 := rfl; omega)] at hr
        rw [← sub_of (show _ + 0 = _ + _ from hr)] at q
        exact q
      · simp only [zrI, zrL, zrR, ne_eq, true_and, and_true, true_or, or_true, not_true_eq_false, not_false_eq_true, false_and, and_false, forall_const, true_implies, false_implies, implies_true, reduceCtorEq, Int.reduceEq, Int.reduceNe, Int.reduceLT, Int.reduceLE, Int.reduceNeg, Nat.reduceEqDiff, if_true, if_false, reduceIte, Int.reduceMul, Int.reduceAdd, Int.reduceSub]
        have h4 : timesN w = w 3 := by unfold timesN; rw [if_neg (by omega)]
        rw [h4] at hr q
        have hc : ((w 3).toNat + 1) * (k' + 1) = ((w 3 + 1) * ((k' : Int) + 1)).toNat := by
          have : (((w 3).toNat + 1) * (k' + 1) : Nat) = ((w 3 + 1) * ((k' : Int) + 1)) := by
            rw [Int.natCast_mul, Int.natCast_succ, Int.natCast_succ, Int.toNat_of_nonneg hw3.1]
          omega
        rw [hc] at hr
        rw [Int.natCast_succ]
        by_cases c5 : ((w 3 + 1) * ((k' : Int) + 1)).toNat ≤ n
        · rw [if_pos c5] at hr
          rw [← sub_of hr] at q
          rw [if_neg (by omega), h4, show ((k' : Int) + 1 - 1).toNat = k' by omega, show ((n : Int) - (w 3 + 1) * ((k' : Int) + 1)).toNat = n - ((w 3 + 1) * ((k' : Int) + 1)).toNat by omega]
          unfold tabN
          rw [if_neg e2, h4]
          exact q
        · rw [if_neg c5] at hr
          rw [← sub_of hr] at q
          rw [if_pos (by omega), h4]
          exact q
    · have hr := TB_no (c := (timesN w).toNat) (n := n) (alB_not.mpr ha)
      simp only [zrI, zrL, zrR, ne_eq, true_and, and_true, true_or, or_true, not_true_eq_false, not_false_eq_true, false_and, and_false, forall_const, true_implies, false_implies, implies_true, reduceCtorEq, Int.reduceEq, Int.reduceNe, Int.reduceLT, Int.reduceLE, Int.reduceNeg, Nat.reduceEqDiff, if_true, if_false, reduceIte, Int.reduceMul, Int.reduceAdd, Int.reduceSub]
      rw [hr] at q
      rw [show Int64.ofNat (TB (alB w) (timesN w).toNat k' n) - Int64.ofNat (TB (alB w) (timesN w).toNat k' n) = 0 by simp] at q
      exact q
  · obtain ⟨e6, e3, e7, e8⟩ := p.2.2.1 e2
    have hg := gapN_bd (w := w) (v := ((k' + 1 : Nat) : Int)) ok e2
    have hw4 : 1 ≤ w 4 ∧ w 4 ≤ 20 := by unfold lawOK canB at ok; omega
    have hq : Int64.ofNat (tabN w (k' + 1) n) - Int64.ofNat (tabN w k' n) = Int64.ofNat (gB (gapF w) (w 4).toNat (k' + 1) n) := by
      unfold tabN
      rw [if_pos e2, if_pos e2, GB_rec, Int64.ofNat_add]
      grind
    rw [hq] at q
    unfold gB at q
    rw [e8]
    refine ⟨fun c => ⟨by omega, t_gapBehind o p ok e2 (by omega) (by omega) ?_⟩, fun c => ?_⟩
    · simp only [hS, zrI, zrL, zrR, Shp_wI, Shp_wJ, zR_wI, zR_wJ, zJ_wI, zI_wJ, zobj_wI, zobj_wJ, zarr_wI, zarr_wJ, zS_wI, zS_wJ, o_2, a_3, a_4, a_5, o_10, a_11, a_12, o_137, o_138, a_139, o_140, a_141, o_142, a_143, o_146, a_147, a_148, a_149, o_152, a_153, o_154, a_157, o_158, a_159, r_2_0, r_2_1, r_2_2, r_2_3, r_2_4, r_2_5, r_2_6, r_2_7, r_2_8, r_2_9, r_2_10, r_10_0, r_10_1, r_137_0, r_137_1, r_137_2, r_138_0, r_140_0, r_142_0, r_146_0, r_146_1, r_146_2, r_146_3, r_152_0, r_154_0, r_154_1, r_158_0, zrI, zrL, zrR, ne_eq, true_and, and_true, true_or, or_true, not_true_eq_false, not_false_eq_true, false_and, and_false, forall_const, true_implies, false_implies, implies_true, reduceCtorEq, Int.reduceEq, Int.reduceNe, Int.reduceLT, Int.reduceLE, Int.reduceNeg, Nat.reduceEqDiff, if_true, if_false, reduceIte, Int.reduceMul, Int.reduceAdd, Int.reduceSub]
      refine ⟨by omega, t_Table_at hS hT (by omega) (by omega) ?_⟩
      simp only [zrI, zrL, zrR, ne_eq, true_and, and_true, true_or, or_true, not_true_eq_false, not_false_eq_true, false_and, and_false, forall_const, true_implies, false_implies, implies_true, reduceCtorEq, Int.reduceEq, Int.reduceNe, Int.reduceLT, Int.reduceLE, Int.reduceNeg, Nat.reduceEqDiff, if_true, if_false, reduceIte, Int.reduceMul, Int.reduceAdd, Int.reduceSub]
      rw [if_pos (by omega)] at q
      rw [if_neg (by omega)]
      unfold tabN
      rw [if_pos e2, show ((n : Int) - ((k' + 1 : Nat) : Int)).toNat = n - (k' + 1) by omega]
      unfold gapF at q ⊢
      rw [show (((k' + 1 : Nat) : Int) - gapN w ((k' + 1 : Nat) : Int)).toNat = k' + 1 - (gapN w ((k' + 1 : Nat) : Int)).toNat by omega]
      exact q
    · rw [if_neg (by omega)] at q
      exact q
  · have e0 : w 0 = 0 := by omega
    have h4 : timesN w = 400 := by unfold timesN; rw [if_pos (Or.inl e0)]
    have hr := TB_rec (al := alB w) (c := 400) (k := k') (n := n) (alB_iff.mpr (Or.inl e0)) kn
    rw [if_neg (by have := Nat.mul_le_mul (Nat.le_refl (400 + 1)) (show 1 ≤ k' + 1 by omega); omega)] at hr
    have e2' : w 0 ≠ 2 := by omega
    refine ⟨by omega, t_Table_at hS hT (by omega) (by omega) ?_⟩
    simp only [zrI, zrL, zrR, ne_eq, true_and, and_true, true_or, or_true, not_true_eq_false, not_false_eq_true, false_and, and_false, forall_const, true_implies, false_implies, implies_true, reduceCtorEq, Int.reduceEq, Int.reduceNe, Int.reduceLT, Int.reduceLE, Int.reduceNeg, Nat.reduceEqDiff, if_true, if_false, reduceIte, Int.reduceMul, Int.reduceAdd, Int.reduceSub]
    unfold tabN at q ⊢
    have h5 : (400 : Int).toNat = 400 := rfl
    rw [if_neg e2', if_neg e2', h4, h5, ← sub_of (show _ + 0 = _ + _ from hr)] at q
    rw [if_neg (by omega), if_neg e2', h4, h5, show ((n : Int) - ((k' + 1 : Nat) : Int)).toNat = n - (k' + 1) by omega, Int.toNat_natCast]
    rw [show ∀ x : Int64, x - Int64.ofNat 0 = x from fun x => Int64.sub_zero x] at q
    exact q
abbrev tbf (a : Nat) (j : Int) : Prop := a = 139 ∨ (a = 138 ∧ (j = 1 ∨ j = 2))
theorem TabV.step {σ σ' : ZM} {w : LW} {f : Int} (h : TabV σ w f) (e : ∀ j, zJ σ' 139 j = zJ σ 139 j) : TabV σ' w f := fun n k a b c => by rw [e]; exact h n k a b c
theorem t_fillRow {Q : ZQ} {σ : ZM} {w : LW} {h : Nat} {n : Nat} (hS : Shp σ) (hh : isL h) (p : LawP σ h w) (ok : lawOK w) (hw : w 0 ≤ 2) (hT : TabV σ w ((n : Int) - 1)) (n4 : n ≤ 400) (q : ∀ σ', TabV σ' w (n : Int) → Fr (fun a => a = 139) σ σ' → Q zu σ') : WP m_Table_fillRow 0 [zr 138, zr h, zi (n : Int), zu, zu] [] σ (0, 0) Q := by
  have h1 := tri_le n4
  have key : ∀ (m k : Nat) (τ : ZM), k + m = n + 1 → 1 ≤ k → TabV τ w ((n : Int) - 1) → (∀ j : Nat, j < k → zJ τ 139 ((tri n : Int) + (j : Int)) = Int64.ofNat (tabN w j n)) → Fr (fun a => a = 139) σ τ → WP m_Table_fillRow 26 [zr 138, zr h, zi (n : Int), zi (tri n : Int), zi (k : Int)] [] τ (0, 0) Q := by
    intro m
    induction m with
    | zero =>
      intro k τ hk k1 hv hr f
      refine r_Table_fillRow_26 ?_
      simp only [f.shp hS, zrI, zrL, zrR, Shp_wI, Shp_wJ, zR_wI, zR_wJ, zJ_wI, zI_wJ, zobj_wI, zobj_wJ, zarr_wI, zarr_wJ, zS_wI, zS_wJ, o_2, a_3, a_4, a_5, o_10, a_11, a_12, o_137, o_138, a_139, o_140, a_141, o_142, a_143, o_146, a_147, a_148, a_149, o_152, a_153, o_154, a_157, o_158, a_159, r_2_0, r_2_1, r_2_2, r_2_3, r_2_4, r_2_5, r_2_6, r_2_7, r_2_8, r_2_9, r_2_10, r_10_0, r_10_1, r_137_0, r_137_1, r_137_2, r_138_0, r_140_0, r_142_0, r_146_0, r_146_1, r_146_2, r_146_3, r_152_0, r_154_0, r_154_1, r_158_0, zrI, zrL, zrR, ne_eq, true_and, and_true, true_or, or_true, not_true_eq_false, not_false_eq_true, false_and, and_false, forall_const, true_implies, false_implies, implies_true, reduceCtorEq, Int.reduceEq, Int.reduceNe, Int.reduceLT, Int.reduceLE, Int.reduceNeg, Nat.reduceEqDiff, if_true, if_false, reduceIte, Int.reduceMul, Int.reduceAdd, Int.reduceSub]
      repeat' first | omega | exact Or.inl (by omega) | apply And.intro | refine fun (_ : _ ≤ _) => ?_ | refine fun (_ : _ < _) => ?_ | refine fun (_ : _ = _) => ?_ | refine fun (_ : ¬ (_ = _)) => ?_ | refine fun (_ : _ ∨ _) => ?_
      refine q τ (fun a b ha ha4 hb => ?_) f
      by_cases e : a = n
      · rw [e]; exact hr b (by omega)
      · exact hv a b (by omega) ha4 hb
    | succ m ih =>
      intro k τ hk k1 hv hr f
      have hS' := f.shp hS
      have hl : h ≠ 139 ∧ h ≠ 138 := by unfold isL at hh; omega
      have pT : LawP τ h w := p.same (fun j _ => (f.2.2.2 h (by omega)).1 j)
      refine r_Table_fillRow_26 ?_
      simp only [hS', zrI, zrL, zrR, Shp_wI, Shp_wJ, zR_wI, zR_wJ, zJ_wI, zI_wJ, zobj_wI, zobj_wJ, zarr_wI, zarr_wJ, zS_wI, zS_wJ, o_2, a_3, a_4, a_5, o_10, a_11, a_12, o_137, o_138, a_139, o_140, a_141, o_142, a_143, o_146, a_147, a_148, a_149, o_152, a_153, o_154, a_157, o_158, a_159, r_2_0, r_2_1, r_2_2, r_2_3, r_2_4, r_2_5, r_2_6, r_2_7, r_2_8, r_2_9, r_2_10, r_10_0, r_10_1, r_137_0, r_137_1, r_137_2, r_138_0, r_140_0, r_142_0, r_146_0, r_146_1, r_146_2, r_146_3, r_152_0, r_154_0, r_154_1, r_158_0, zrI, zrL, zrR, ne_eq, true_and, and_true, true_or, or_true, not_true_eq_false, not_false_eq_true, false_and, and_false, forall_const, true_implies, false_implies, implies_true, reduceCtorEq, Int.reduceEq, Int.reduceNe, Int.reduceLT, Int.reduceLE, Int.reduceNeg, Nat.reduceEqDiff, if_true, if_false, reduceIte, Int.reduceMul, Int.reduceAdd, Int.reduceSub]
      repeat' first | omega | exact Or.inl (by omega) | apply And.intro | refine fun (_ : _ ≤ _) => ?_ | refine fun (_ : _ < _) => ?_ | refine fun (_ : _ = _) => ?_ | refine fun (_ : ¬ (_ = _)) => ?_ | refine fun (_ : _ ∨ _) => ?_
      refine t_beginningWith hS' hh pT ok hw hv k1 (by omega) n4 ?_
      simp only [hS', zrI, zrL, zrR, Shp_wI, Shp_wJ, zR_wI, zR_wJ, zJ_wI, zI_wJ, zobj_wI, zobj_wJ, zarr_wI, zarr_wJ, zS_wI, zS_wJ, o_2, a_3, a_4, a_5, o_10, a_11, a_12, o_137, o_138, a_139, o_140, a_141, o_142, a_143, o_146, a_147, a_148, a_149, o_152, a_153, o_154, a_157, o_158, a_159, r_2_0, r_2_1, r_2_2, r_2_3, r_2_4, r_2_5, r_2_6, r_2_7, r_2_8, r_2_9, r_2_10, r_10_0, r_10_1, r_137_0, r_137_1, r_137_2, r_138_0, r_140_0, r_142_0, r_146_0, r_146_1, r_146_2, r_146_3, r_152_0, r_154_0, r_154_1, r_158_0, zrI, zrL, zrR, ne_eq, true_and, and_true, true_or, or_true, not_true_eq_false, not_false_eq_true, false_and, and_false, forall_const, true_implies, false_implies, implies_true, reduceCtorEq, Int.reduceEq, Int.reduceNe, Int.reduceLT, Int.reduceLE, Int.reduceNeg, Nat.reduceEqDiff, if_true, if_false, reduceIte, Int.reduceMul, Int.reduceAdd, Int.reduceSub]
      repeat' first | omega | exact Or.inl (by omega) | apply And.intro | refine fun (_ : _ ≤ _) => ?_ | refine fun (_ : _ < _) => ?_ | refine fun (_ : _ = _) => ?_ | refine fun (_ : ¬ (_ = _)) => ?_ | refine fun (_ : _ ∨ _) => ?_
      have e0 := hr (k - 1) (by omega)
      rw [show (tri n : Int) + ((k - 1 : Nat) : Int) = (tri n : Int) + (k : Int) - 1 by omega] at e0
      rw [e0, show Int64.ofNat (tabN w (k - 1) n) + (Int64.ofNat (tabN w k n) - Int64.ofNat (tabN w (k - 1) n)) = Int64.ofNat (tabN w k n) by grind]
      have := ih (k + 1) (wJ τ 139 ((tri n : Int) + (k : Int)) (Int64.ofNat (tabN w k n))) (by omega) (by omega) (fun a b ha ha4 hb => ?_) (fun j hj => ?_) (f.tr (Fr.wJ rfl))
      · rw [Int.natCast_succ] at this
        exact this
      · rw [zJ_wJ, if_neg]
        · exact hv a b ha ha4 hb
        · rintro ⟨_, e⟩
          have := tri_lt (show a < n by omega)
          omega
      · rw [zJ_wJ]
        by_cases e : j = k
        · rw [if_pos ⟨rfl, by omega⟩, e]
        · rw [if_neg (by omega)]
          exact hr j (by omega)
  refine r_Table_fillRow_0 ?_
  simp only [hS, tri_int, tri_div, zrI, zrL, zrR, Shp_wI, Shp_wJ, zR_wI, zR_wJ, zJ_wI, zI_wJ, zobj_wI, zobj_wJ, zarr_wI, zarr_wJ, zS_wI, zS_wJ, o_2, a_3, a_4, a_5, o_10, a_11, a_12, o_137, o_138, a_139, o_140, a_141, o_142, a_143, o_146, a_147, a_148, a_149, o_152, a_153, o_154, a_157, o_158, a_159, r_2_0, r_2_1, r_2_2, r_2_3, r_2_4, r_2_5, r_2_6, r_2_7, r_2_8, r_2_9, r_2_10, r_10_0, r_10_1, r_137_0, r_137_1, r_137_2, r_138_0, r_140_0, r_142_0, r_146_0, r_146_1, r_146_2, r_146_3, r_152_0, r_154_0, r_154_1, r_158_0, zrI, zrL, zrR, ne_eq, true_and, and_true, true_or, or_true, not_true_eq_false, not_false_eq_true, false_and, and_false, forall_const, true_implies, false_implies, implies_true, reduceCtorEq, Int.reduceEq, Int.reduceNe, Int.reduceLT, Int.reduceLE, Int.reduceNeg, Nat.reduceEqDiff, if_true, if_false, reduceIte, Int.reduceMul, Int.reduceAdd, Int.reduceSub]
  repeat' first | omega | exact Or.inl (by omega) | apply And.intro | refine fun (_ : _ ≤ _) => ?_ | refine fun (_ : _ < _) => ?_ | refine fun (_ : _ = _) => ?_ | refine fun (_ : ¬ (_ = _)) => ?_ | refine fun (_ : _ ∨ _) => ?_
  · refine key n 1 _ (by omega) (by omega) (fun a b ha ha4 hb => ?_) (fun j hj => ?_) (Fr.wJ rfl)
    · rw [zJ_wJ, if_neg]
      · exact hT a b ha ha4 hb
      · rintro ⟨_, e⟩
        have := tri_lt (show a < n by omega)
        omega
    · rw [zJ_wJ, if_pos ⟨rfl, by omega⟩, show j = 0 by omega, tabN_zero, if_neg (by omega)]
      rfl
  · refine key n 1 _ (by omega) (by omega) (fun a b ha ha4 hb => by omega) (fun j hj => ?_) (Fr.wJ rfl)
    rw [zJ_wJ, if_pos ⟨rfl, by omega⟩, show j = 0 by omega, tabN_zero, if_pos (by omega)]
    rfl
/-- the table: good for its law, as far as it is filled -/
def TabI (σ : ZM) (L : Int → LW) : Prop := -1 ≤ zI σ 138 2 ∧ zI σ 138 2 ≤ 400 ∧ (zI σ 138 2 = -1 ∨ ∃ l, 0 ≤ l ∧ l ≤ 7 ∧ L l 0 ≤ 2 ∧ zR σ 138 1 = 176 + 2 * l.toNat ∧ TabV σ (L l) (zI σ 138 2))
theorem t_Table_prepare {Q : ZQ} {σ : ZM} {L : Int → LW} {l n : Int} (hS : Shp σ) (hL : LawsP σ L) (hT : TabI σ L) (l0 : 0 ≤ l) (l1 : l ≤ 7) (hw : L l 0 ≤ 2) (n0 : 0 ≤ n) (n4 : n ≤ 400) (q : ∀ σ', TabI σ' L → (∃ f, n ≤ f ∧ TabV σ' (L l) f) → Fz tbf σ σ' → Q zu σ') : WP m_Table_prepare 0 [zr 138, zr (176 + 2 * l.toNat), zi n, zu] [] σ (0, 0) Q := by
  have key : ∀ (m : Nat) (x : Int) (τ : ZM), 0 ≤ x → x ≤ 401 → n + 1 ≤ x + m → zI τ 138 2 = x - 1 → zR τ 138 1 = 176 + 2 * l.toNat → TabV τ (L l) (x - 1) → Fz tbf σ τ → WP m_Table_prepare 25 [zr 138, zr (176 + 2 * l.toNat), zi n, zi x] [] τ (0, 0) Q := by
    intro m
    induction m with
    | zero =>
      intro x τ x0 x4 hm e2 e1 hv f
      refine r_Table_prepare_25 ?_
      simp only [f.shp hS, zrI, zrL, zrR, Shp_wI, Shp_wJ, zR_wI, zR_wJ, zJ_wI, zI_wJ, zobj_wI, zobj_wJ, zarr_wI, zarr_wJ, zS_wI, zS_wJ, o_2, a_3, a_4, a_5, o_10, a_11, a_12, o_137, o_138, a_139, o_140, a_141, o_142, a_143, o_146, a_147, a_148, a_149, o_152, a_153, o_154, a_157, o_158, a_159, r_2_0, r_2_1, r_2_2, r_2_3, r_2_4, r_2_5, r_2_6, r_2_7, r_2_8, r_2_9, r_2_10, r_10_0, r_10_1, r_137_0, r_137_1, r_137_2, r_138_0, r_140_0, r_142_0, r_146_0, r_146_1, r_146_2, r_146_3, r_152_0, r_154_0, r_154_1, r_158_0, zrI, zrL, zrR, ne_eq, true_and, and_true, true_or, or_true, not_true_eq_false, not_false_eq_true, false_and, and_false, forall_const, true_implies, false_implies, implies_true, reduceCtorEq, Int.reduceEq, Int.reduceNe, Int.reduceLT, Int.reduceLE, Int.reduceNeg, Nat.reduceEqDiff, if_true, if_false, reduceIte, Int.reduceMul, Int.reduceAdd, Int.reduceSub]
      repeat' first | omega | exact Or.inl (by omega) | apply And.intro | refine fun (_ : _ ≤ _) => ?_ | refine fun (_ : _ < _) => ?_ | refine fun (_ : _ = _) => ?_ | refine fun (_ : ¬ (_ = _)) => ?_ | refine fun (_ : _ ∨ _) => ?_
      exact q τ ⟨by omega, by omega, Or.inr ⟨l, l0, l1, hw, e1, by rw [e2]; exact hv⟩⟩ ⟨x - 1, by omega, hv⟩ f
    | succ m ih =>
      intro x τ x0 x4 hm e2 e1 hv f
      have hS' := f.shp hS
      have hP := f.lawsP (fun a j a0 a1 j2 => by omega) hL
      refine r_Table_prepare_25 ?_
      simp only [hS', zrI, zrL, zrR, Shp_wI, Shp_wJ, zR_wI, zR_wJ, zJ_wI, zI_wJ, zobj_wI, zobj_wJ, zarr_wI, zarr_wJ, zS_wI, zS_wJ, o_2, a_3, a_4, a_5, o_10, a_11, a_12, o_137, o_138, a_139, o_140, a_141, o_142, a_143, o_146, a_147, a_148, a_149, o_152, a_153, o_154, a_157, o_158, a_159, r_2_0, r_2_1, r_2_2, r_2_3, r_2_4, r_2_5, r_2_6, r_2_7, r_2_8, r_2_9, r_2_10, r_10_0, r_10_1, r_137_0, r_137_1, r_137_2, r_138_0, r_140_0, r_142_0, r_146_0, r_146_1, r_146_2, r_146_3, r_152_0, r_154_0, r_154_1, r_158_0, zrI, zrL, zrR, ne_eq, true_and, and_true, true_or, or_true, not_true_eq_false, not_false_eq_true, false_and, and_false, forall_const, true_implies, false_implies, implies_true, reduceCtorEq, Int.reduceEq, Int.reduceNe, Int.reduceLT, Int.reduceLE, Int.reduceNeg, Nat.reduceEqDiff, if_true, if_false, reduceIte, Int.reduceMul, Int.reduceAdd, Int.reduceSub]
      repeat' first | omega | exact Or.inl (by omega) | apply And.intro | refine fun (_ : _ ≤ _) => ?_ | refine fun (_ : _ < _) => ?_ | refine fun (_ : _ = _) => ?_ | refine fun (_ : ¬ (_ = _)) => ?_ | refine fun (_ : _ ∨ _) => ?_
      · exact q τ ⟨by omega, by omega, Or.inr ⟨l, l0, l1, hw, e1, by rw [e2]; exact hv⟩⟩ ⟨x - 1, by omega, hv⟩ f
      · obtain ⟨j, rfl⟩ := Int.eq_ofNat_of_zero_le x0
        refine t_fillRow hS' (isL_law l0 l1) (hP l l0 l1).2 (hP l l0 l1).1 hw hv (by omega) (fun υ k1 k2 => ?_)
        have f2 : Fz tbf τ υ := k2.z (fun a j w => by omega)
        simp only [k2.shp hS', zrI, zrL, zrR, Shp_wI, Shp_wJ, zR_wI, zR_wJ, zJ_wI, zI_wJ, zobj_wI, zobj_wJ, zarr_wI, zarr_wJ, zS_wI, zS_wJ, o_2, a_3, a_4, a_5, o_10, a_11, a_12, o_137, o_138, a_139, o_140, a_141, o_142, a_143, o_146, a_147, a_148, a_149, o_152, a_153, o_154, a_157, o_158, a_159, r_2_0, r_2_1, r_2_2, r_2_3, r_2_4, r_2_5, r_2_6, r_2_7, r_2_8, r_2_9, r_2_10, r_10_0, r_10_1, r_137_0, r_137_1, r_137_2, r_138_0, r_140_0, r_142_0, r_146_0, r_146_1, r_146_2, r_146_3, r_152_0, r_154_0, r_154_1, r_158_0, zrI, zrL, zrR, ne_eq, true_and, and_true, true_or, or_true, not_true_eq_false, not_false_eq_true, false_and, and_false, forall_const, true_implies, false_implies, implies_true, reduceCtorEq, Int.reduceEq, Int.reduceNe, Int.reduceLT, Int.reduceLE, Int.reduceNeg, Nat.reduceEqDiff, if_true, if_false, reduceIte, Int.reduceMul, Int.reduceAdd, Int.reduceSub]
        repeat' first | omega | exact Or.inl (by omega) | apply And.intro | refine fun (_ : _ ≤ _) => ?_ | refine fun (_ : _ < _) => ?_ | refine fun (_ : _ = _) => ?_ | refine fun (_ : ¬ (_ = _)) => ?_ | refine fun (_ : _ ∨ _) => ?_
        refine ih ((j : Int) + 1) _ (by omega) (by omega) (by omega) ?_ ?_ ?_ ((f.tr f2).tr (Fz.wI (by omega)))
        · rw [zI_wI, if_pos ⟨rfl, rfl⟩]; omega
        · show zR υ 138 1 = _
          rw [k2.2.2.1]; exact e1
        · rw [show (j : Int) + 1 - 1 = j by omega]
          exact k1.step (fun _ => rfl)
  obtain ⟨t1, t2, t3⟩ := hT
  refine r_Table_prepare_0 ?_
  simp only [hS, zrI, zrL, zrR, Shp_wI, Shp_wJ, zR_wI, zR_wJ, zJ_wI, zI_wJ, zobj_wI, zobj_wJ, zarr_wI, zarr_wJ, zS_wI, zS_wJ, o_2, a_3, a_4, a_5, o_10, a_11, a_12, o_137, o_138, a_139, o_140, a_141, o_142, a_143, o_146, a_147, a_148, a_149, o_152, a_153, o_154, a_157, o_158, a_159, r_2_0, r_2_1, r_2_2, r_2_3, r_2_4, r_2_5, r_2_6, r_2_7, r_2_8, r_2_9, r_2_10, r_10_0, r_10_1, r_137_0, r_137_1, r_137_2, r_138_0, r_140_0, r_142_0, r_146_0, r_146_1, r_146_2, r_146_3, r_152_0, r_154_0, r_154_1, r_158_0, zrI, zrL, zrR, ne_eq, true_and, and_true, true_or, or_true, not_true_eq_false, not_false_eq_true, false_and, and_false, forall_const, true_implies, false_implies, implies_true, reduceCtorEq, Int.reduceEq, Int.reduceNe, Int.reduceLT, Int.reduceLE, Int.reduceNeg, Nat.reduceEqDiff, if_true, if_false, reduceIte, Int.reduceMul, Int.reduceAdd, Int.reduceSub]
  refine ⟨fun c => ⟨by omega, key (n + 1).toNat _ σ (by omega) (by omega) (by omega) (by omega) c ?_ Fz.rf⟩, fun c => ?_⟩
  · rcases t3 with e | ⟨l', b0, b1, b2, b3, b4⟩
    · intro a b ha; omega
    · have : l' = l := by omega
      rw [this] at b4
      rw [show zI σ 138 2 + 1 - 1 = zI σ 138 2 by omega]
      exact b4
  · have o : zobj (wR σ 138 1 (176 + 2 * l.toNat)) 138 9 := by rw [zobj_wR]; exact hS.obj (by decide) (by decide) rfl
    have e : zI (wI (wR σ 138 1 (176 + 2 * l.toNat)) 138 2 (-1)) 138 2 = -1 := by rw [zI_wI, if_pos ⟨rfl, rfl⟩]
    have fz : Fz tbf σ (wI (wR σ 138 1 (176 + 2 * l.toNat)) 138 2 (-1)) := (Fz.wR (by omega) (by unfold rfx; omega)).tr (Fz.wI (by omega))
    rw [e]
    refine ⟨o, o, by omega, key (n + 1).toNat (-1 + 1) _ (by omega) (by omega) (by omega) (by rw [e]; omega) ?_ (fun a b ha => by omega) fz⟩
    show zR (wR σ 138 1 (176 + 2 * l.toNat)) 138 1 = _
    rw [zR_wR, if_pos ⟨rfl, rfl⟩]
