/-! ranks, of the class: waysAheadOf, find -/
theorem gr_zero {w : LW} {i b o n v : Nat} (h : grN w i b n < (v : Int)) (ht : v ≤ topN i b n) : WN w i b o n v = 0 := by
  unfold grN at h
  unfold topN at ht
  by_cases hi : i = 0
  · rw [if_pos hi] at h ht
    by_cases h3 : w 0 = 3
    · rw [if_pos h3] at h
      unfold WN
      rw [if_neg (by omega), if_neg (by omega), if_pos h3, if_pos (by omega)]
    · rw [if_neg h3] at h
      omega
  · rw [if_neg hi] at h ht
    by_cases h2 : w 0 = 2
    · rw [if_pos h2] at h
      unfold WN
      rw [if_neg (by omega), if_pos h2, if_pos (by omega)]
    · rw [if_neg h2] at h
      omega
theorem gr_top {w : LW} {i b n : Nat} (ok : lawOK w) : grN w i b n ≤ (topN i b n : Int) := by
  unfold grN topN
  split
  · split <;> omega
  · split
    · rename_i h2
      have := gapN_bd (w := w) (v := (b : Int)) ok h2
      omega
    · omega
theorem wk_next {w : LW} {N : Int} {i b o n v : Nat} (k : wkI w N i b o n) (hv : 1 ≤ v) (hvn : v ≤ n) (ha : w 0 ≤ 1 → alB w v = true) (h3 : w 0 = 3 → (v : Int) ≤ w 2) : wkI w N (i + 1) v (hadN i b o v + 1) (n - v) := by
  obtain ⟨k1, k2, k3, k4, k5, k6, k7, k8, k9⟩ := k
  have hh : hadN i b o v ≤ o := by unfold hadN; split <;> omega
  exact ⟨fun h => by omega, fun _ => hv, fun _ => ha, fun _ => h3, by omega, by omega, by omega, by omega, k9⟩
/-- W at p + 1 .. t -/
def sBt (W : Nat → Nat) (p : Nat) : Nat → Nat
  | 0 => 0
  | t + 1 => if p ≤ t then sBt W p t + W (t + 1) else 0
theorem sBt_low {W : Nat → Nat} {p : Nat} : ∀ t, t ≤ p → sBt W p t = 0
  | 0, _ => rfl
  | t + 1, h => by
    show (if p ≤ t then _ else 0) = 0
    rw [if_neg (by omega)]
theorem sBt_tail {W : Nat → Nat} {p g : Nat} : ∀ t, g ≤ t → (∀ v, g < v → v ≤ t → W v = 0) → sBt W p t = sBt W p g
  | 0, h, _ => by rw [show g = 0 by omega]
  | t + 1, h, hz => by
    by_cases e : g = t + 1
    · rw [e]
    · have ih := sBt_tail (W := W) (p := p) t (by omega) (fun v a b => hz v a (by omega))
      show (if p ≤ t then sBt W p t + W (t + 1) else 0) = _
      split
      · rw [ih, hz (t + 1) (by omega) (Nat.le_refl _), Nat.add_zero]
      · rw [sBt_low g (by omega)]
/-- the rank of a SUM -/
def rkF (w : LW) (l : List Int) : Nat → Nat → Nat → Nat → Nat → Nat
  | 0, _, _, _, _ => 0
  | f + 1, i, b, o, n => sBt (WN w i b o n) (ga l i).toNat (topN i b n) + rkF w l f (i + 1) (ga l i).toNat (hadN i b o (ga l i).toNat + 1) (n - (ga l i).toNat)
abbrev raf (a : Nat) (j : Int) : Prop := cof a j
theorem t_waysAheadOf {Q : ZQ} {σ : ZM} {L : Int → LW} {l : Int} {g : Nat} {p : List Int} (hS : Shp σ) (co : CoI σ L) (l0 : 0 ≤ l) (l1 : l ≤ 7) (hw : L l 0 ≤ 3) (hg : isS g) (hp : Pt p) (hl : Lz σ g p) (hcov : p.sum ≤ covN (L l)) (hcl : ClashR (L l) p (-1)) (q : ∀ σ', CoI σ' L → Fz cof σ σ' → Q (zl (Int64.ofNat (rkF (L l) p p.length 0 0 0 p.sum.toNat))) σ') : WP m_Counter_waysAheadOf 0 [zr 137, zr (176 + 2 * l.toNat), zr g, zu, zu, zu, zu] [] σ (0, 0) Q := by
  have ok := (co.1 l l0 l1).1
  have hk0 : 0 ≤ L l 0 := by unfold lawOK canB at ok; omega
  have hlen := hp.len
  have h4 := hp.2.1
  have hgood : ∀ i : Int, 0 ≤ i → i < (p.length : Int) → ¬ badP (L l) p i := by
    rcases hcl with ⟨_, h⟩ | ⟨h, _⟩
    · exact h
    · omega
  have hgS : g ≠ 137 ∧ g ≠ 139 ∧ g ≠ 141 ∧ g ≠ 143 ∧ g ≠ 138 ∧ g ≠ 140 ∧ g < 176 ∧ g + 1 ≠ 137 ∧ g + 1 ≠ 138 ∧ g + 1 ≠ 139 ∧ g + 1 ≠ 140 ∧ g + 1 ≠ 141 ∧ g + 1 ≠ 143 ∧ g + 1 < 177 ∧ g + 1 ≠ 176 := by
    unfold isS at hg
    omega
  have alw : ∀ i : Nat, i < p.length → L l 0 ≤ 1 → alB (L l) (ga p i).toNat = true := fun i hi h => by
    have hpos := hp.pos (i := (i : Int)) (by omega) (by omega)
    rw [alB_iff, show (((ga p i).toNat : Nat) : Int) = ga p i by omega]
    by_cases e : L l 0 = 0
    · exact Or.inl e
    · have := hgood i (by omega) (by omega)
      unfold badP at this
      exact Classical.byContradiction (fun hc => this (Or.inl ⟨by omega, Or.inl hc⟩))
  have few : ∀ i : Nat, i < p.length → L l 0 = 3 → ((ga p i).toNat : Int) ≤ L l 2 := fun i hi h => by
    have hpos := hp.pos (i := (i : Int)) (by omega) (by omega)
    have := hgood i (by omega) (by omega)
    unfold badP at this
    have h5 : ¬ (L l 0 = 3 ∧ (L l 1 ≤ (i : Int) ∨ L l 2 < ga p i)) := fun c => this (Or.inr (Or.inr (Or.inl c)))
    omega
  have main : ∀ (f : Nat) (i b o n : Nat) (acc : Nat) (τ : ZM) (u1 u6 : PV), i + f = p.length → (n : Int) = p.sum - (p.take i).sum → CoI τ L → CtI τ L l p.sum i b o n → wkI (L l) p.sum i b o n → Fz cof σ τ → (∀ σ', CoI σ' L → Fz cof σ σ' → Q (zl (Int64.ofNat (acc + rkF (L l) p f i b o n))) σ') → WP m_Counter_waysAheadOf 14 [zr 137, u1, zr g, zl (Int64.ofNat acc), zu, zi (i : Int), u6] [] τ (0, 0) Q := by
    intro f
    induction f with
    | zero =>
      intro i b o n acc τ u1 u6 hi hn cT ct k fz q
      have hT := fz.shp hS
      have lT := fz.lz (fun j => by omega) (fun j => by omega) hl
      refine r_Counter_waysAheadOf_14 ?_
      simp only [hT, (hT.sumO hg).1, lT.1, zrI, zrL, zrR, Shp_wI, Shp_wJ, zR_wI, zR_wJ, zJ_wI, zI_wJ, zobj_wI, zobj_wJ, zarr_wI, zarr_wJ, zS_wI, zS_wJ, o_2, a_3, a_4, a_5, o_10, a_11, a_12, o_137, o_138, a_139, o_140, a_141, o_142, a_143, o_146, a_147, a_148, a_149, o_152, a_153, o_154, a_157, o_158, a_159, r_2_0, r_2_1, r_2_2, r_2_3, r_2_4, r_2_5, r_2_6, r_2_7, r_2_8, r_2_9, r_2_10, r_10_0, r_10_1, r_137_0, r_137_1, r_137_2, r_138_0, r_140_0, r_142_0, r_146_0, r_146_1, r_146_2, r_146_3, r_152_0, r_154_0, r_154_1, r_158_0, zrI, zrL, zrR, ne_eq, true_and, and_true, true_or, or_true, not_true_eq_false, not_false_eq_true, false_and, and_false, forall_const, true_implies, false_implies, implies_true, reduceCtorEq, Int.reduceEq, Int.reduceNe, Int.reduceLT, Int.reduceLE, Int.reduceNeg, Nat.reduceEqDiff, if_true, if_false, reduceIte, Int.reduceMul, Int.reduceAdd, Int.reduceSub]
      exact ⟨fun _ => q τ cT fz, fun c => by omega⟩
    | succ f ih =>
      intro i b o n acc τ u1 u6 hi hn cT ct k fz q
      have hT := fz.shp hS
      have lT := fz.lz (fun j => by omega) (fun j => by omega) hl
      have hpos := hp.pos (i := (i : Int)) (by omega) (by omega)
      have hr := hp.rng (i : Int)
      have hst := sum_take p (i + 1) hp.1
      have esn := take_snoc (l := p) (i := (i : Int)) (by omega) (by omega)
      rw [show ((i : Int) + 1).toNat = i + 1 by omega, Int.toNat_natCast] at esn
      have esum : (p.take (i + 1)).sum = (p.take i).sum + ga p i := by rw [esn]; simp
      obtain ⟨v, hv⟩ : ∃ v : Nat, ga p (i : Int) = (v : Int) := ⟨(ga p i).toNat, by omega⟩
      have ev : (ga p (i : Int)).toNat = v := by omega
      have hvn : v ≤ n := by omega
      refine r_Counter_waysAheadOf_14 ?_
      simp only [hT, (hT.sumO hg).1, lT.1, zrI, zrL, zrR, Shp_wI, Shp_wJ, zR_wI, zR_wJ, zJ_wI, zI_wJ, zobj_wI, zobj_wJ, zarr_wI, zarr_wJ, zS_wI, zS_wJ, o_2, a_3, a_4, a_5, o_10, a_11, a_12, o_137, o_138, a_139, o_140, a_141, o_142, a_143, o_146, a_147, a_148, a_149, o_152, a_153, o_154, a_157, o_158, a_159, r_2_0, r_2_1, r_2_2, r_2_3, r_2_4, r_2_5, r_2_6, r_2_7, r_2_8, r_2_9, r_2_10, r_10_0, r_10_1, r_137_0, r_137_1, r_137_2, r_138_0, r_140_0, r_142_0, r_146_0, r_146_1, r_146_2, r_146_3, r_152_0, r_154_0, r_154_1, r_158_0, zrI, zrL, zrR, ne_eq, true_and, and_true, true_or, or_true, not_true_eq_false, not_false_eq_true, false_and, and_false, forall_const, true_implies, false_implies, implies_true, reduceCtorEq, Int.reduceEq, Int.reduceNe, Int.reduceLT, Int.reduceLE, Int.reduceNeg, Nat.reduceEqDiff, if_true, if_false, reduceIte, Int.reduceMul, Int.reduceAdd, Int.reduceSub]
      refine ⟨fun c => by omega, fun _ => t_greatest hT cT.1 l0 l1 ct k ?_⟩
      simp only [zrI, zrL, zrR, ne_eq, true_and, and_true, true_or, or_true, not_true_eq_false, not_false_eq_true, false_and, and_false, forall_const, true_implies, false_implies, implies_true, reduceCtorEq, Int.reduceEq, Int.reduceNe, Int.reduceLT, Int.reduceLE, Int.reduceNeg, Nat.reduceEqDiff, if_true, if_false, reduceIte, Int.reduceMul, Int.reduceAdd, Int.reduceSub]
      have gt := gr_top (w := L l) (i := i) (b := b) (n := n) ok
      have ht4 : topN i b n ≤ 400 := by
        obtain ⟨k1, k2, k3, k4, k5, k6, k7, k8, k9⟩ := k
        unfold topN
        split <;> omega
      have loop : ∀ (m : Nat) (x : Int) (acc' : Nat), x ≤ (v : Int) + m → x ≤ grN (L l) i b n → (acc' + sBt (WN (L l) i b o n) v x.toNat = acc + sBt (WN (L l) i b o n) v (topN i b n)) → WP m_Counter_waysAheadOf 29 [zr 137, u1, zr g, zl (Int64.ofNat acc'), zu, zi (i : Int), zi x] [] τ (0, 0) Q := by
        intro m
        induction m with
        | zero =>
          intro x acc' hx hxg he
          refine r_Counter_waysAheadOf_29 ?_
          simp only [hT, (hT.sumO hg).1, zrI, zrL, zrR, Shp_wI, Shp_wJ, zR_wI, zR_wJ, zJ_wI, zI_wJ, zobj_wI, zobj_wJ, zarr_wI, zarr_wJ, zS_wI, zS_wJ, o_2, a_3, a_4, a_5, o_10, a_11, a_12, o_137, o_138, a_139, o_140, a_141, o_142, a_143, o_146, a_147, a_148, a_149, o_152, a_153, o_154, a_157, o_158, a_159, r_2_0, r_2_1, r_2_2, r_2_3, r_2_4, r_2_5, r_2_6, r_2_7, r_2_8, r_2_9, r_2_10, r_10_0, r_10_1, r_137_0, r_137_1, r_137_2, r_138_0, r_140_0, r_142_0, r_146_0, r_146_1, r_146_2, r_146_3, r_152_0, r_154_0, r_154_1, r_158_0, zrI, zrL, zrR, ne_eq, true_and, and_true, true_or, or_true, not_true_eq_false, not_false_eq_true, false_and, and_false, forall_const, true_implies, false_implies, implies_true, reduceCtorEq, Int.reduceEq, Int.reduceNe, Int.reduceLT, Int.reduceLE, Int.reduceNeg, Nat.reduceEqDiff, if_true, if_false, reduceIte, Int.reduceMul, Int.reduceAdd, Int.reduceSub]
          refine t_Sum_at (hT.sumO hg) lT ?_
          simp only [hT, hv, (hT.sumO hg).1, zrI, zrL, zrR, Shp_wI, Shp_wJ, zR_wI, zR_wJ, zJ_wI, zI_wJ, zobj_wI, zobj_wJ, zarr_wI, zarr_wJ, zS_wI, zS_wJ, o_2, a_3, a_4, a_5, o_10, a_11, a_12, o_137, o_138, a_139, o_140, a_141, o_142, a_143, o_146, a_147, a_148, a_149, o_152, a_153, o_154, a_157, o_158, a_159, r_2_0, r_2_1, r_2_2, r_2_3, r_2_4, r_2_5, r_2_6, r_2_7, r_2_8, r_2_9, r_2_10, r_10_0, r_10_1, r_137_0, r_137_1, r_137_2, r_138_0, r_140_0, r_142_0, r_146_0, r_146_1, r_146_2, r_146_3, r_152_0, r_154_0, r_154_1, r_158_0, zrI, zrL, zrR, ne_eq, true_and, and_true, true_or, or_true, not_true_eq_false, not_false_eq_true, false_and, and_false, forall_const, true_implies, false_implies, implies_true, reduceCtorEq, Int.reduceEq, Int.reduceNe, Int.reduceLT, Int.reduceLE, Int.reduceNeg, Nat.reduceEqDiff, if_true, if_false, reduceIte, Int.reduceMul, Int.reduceAdd, Int.reduceSub]
          refine ⟨fun _ => t_Sum_at (hT.sumO hg) lT ?_, fun c => by omega⟩
          simp only [hT, hv, zrI, zrL, zrR, Shp_wI, Shp_wJ, zR_wI, zR_wJ, zJ_wI, zI_wJ, zobj_wI, zobj_wJ, zarr_wI, zarr_wJ, zS_wI, zS_wJ, o_2, a_3, a_4, a_5, o_10, a_11, a_12, o_137, o_138, a_139, o_140, a_141, o_142, a_143, o_146, a_147, a_148, a_149, o_152, a_153, o_154, a_157, o_158, a_159, r_2_0, r_2_1, r_2_2, r_2_3, r_2_4, r_2_5, r_2_6, r_2_7, r_2_8, r_2_9, r_2_10, r_10_0, r_10_1, r_137_0, r_137_1, r_137_2, r_138_0, r_140_0, r_142_0, r_146_0, r_146_1, r_146_2, r_146_3, r_152_0, r_154_0, r_154_1, r_158_0, zrI, zrL, zrR, ne_eq, true_and, and_true, true_or, or_true, not_true_eq_false, not_false_eq_true, false_and, and_false, forall_const, true_implies, false_implies, implies_true, reduceCtorEq, Int.reduceEq, Int.reduceNe, Int.reduceLT, Int.reduceLE, Int.reduceNeg, Nat.reduceEqDiff, if_true, if_false, reduceIte, Int.reduceMul, Int.reduceAdd, Int.reduceSub]
          refine t_step hT ct k (by omega) hvn (fun υ w1 w2 => ⟨by omega, ?_⟩)
          rw [sBt_low x.toNat (by omega)] at he
          have := ih (i + 1) v (hadN i b o v + 1) (n - v) acc' υ u1 (zi x) (by omega) (by omega) (w2.coI (fun a j w => by omega) cT) w1 (wk_next k (by omega) hvn (fun h => by have := alw i (by omega) h; rw [ev] at this; exact this) (fun h => by have := few i (by omega) h; rw [ev] at this; exact this)) (fz.tr (w2.mono (fun a j w => by omega))) (fun σ' z1 z2 => by
            have := q σ' z1 z2
            have e : acc + rkF (L l) p (f + 1) i b o n = acc' + rkF (L l) p f (i + 1) v (hadN i b o v + 1) (n - v) := by
              show acc + (sBt (WN (L l) i b o n) (ga p i).toNat (topN i b n) + rkF (L l) p f (i + 1) (ga p i).toNat (hadN i b o (ga p i).toNat + 1) (n - (ga p i).toNat)) = _
              rw [ev]
              omega
            rw [e] at this
            exact this)
          rw [Int.natCast_succ] at this
          exact this
        | succ m ihm =>
          intro x acc' hx hxg he
          by_cases c : x ≤ (v : Int) + m
          · exact ihm x acc' c hxg he
          · obtain ⟨y, hy⟩ : ∃ y : Nat, x = ((y + 1 : Nat) : Int) := ⟨(x - 1).toNat, by omega⟩
            refine r_Counter_waysAheadOf_29 ?_
            simp only [hT, (hT.sumO hg).1, zrI, zrL, zrR, Shp_wI, Shp_wJ, zR_wI, zR_wJ, zJ_wI, zI_wJ, zobj_wI, zobj_wJ, zarr_wI, zarr_wJ, zS_wI, zS_wJ, o_2, a_3, a_4, a_5, o_10, a_11, a_12, o_137, o_138, a_139, o_140, a_141, o_142, a_143, o_146, a_147, a_148, a_149, o_152, a_153, o_154, a_157, o_158, a_159, r_2_0, r_2_1, r_2_2, r_2_3, r_2_4, r_2_5, r_2_6, r_2_7, r_2_8, r_2_9, r_2_10, r_10_0, r_10_1, r_137_0, r_137_1, r_137_2, r_138_0, r_140_0, r_142_0, r_146_0, r_146_1, r_146_2, r_146_3, r_152_0, r_154_0, r_154_1, r_158_0, zrI, zrL, zrR, ne_eq, true_and, and_true, true_or, or_true, not_true_eq_false, not_false_eq_true, false_and, and_false, forall_const, true_implies, false_implies, implies_true, reduceCtorEq, Int.reduceEq, Int.reduceNe, Int.reduceLT, Int.reduceLE, Int.reduceNeg, Nat.reduceEqDiff, if_true, if_false, reduceIte, Int.reduceMul, Int.reduceAdd, Int.reduceSub]
            refine t_Sum_at (hT.sumO hg) lT ?_
            simp only [hT, hv, zrI, zrL, zrR, Shp_wI, Shp_wJ, zR_wI, zR_wJ, zJ_wI, zI_wJ, zobj_wI, zobj_wJ, zarr_wI, zarr_wJ, zS_wI, zS_wJ, o_2, a_3, a_4, a_5, o_10, a_11, a_12, o_137, o_138, a_139, o_140, a_141, o_142, a_143, o_146, a_147, a_148, a_149, o_152, a_153, o_154, a_157, o_158, a_159, r_2_0, r_2_1, r_2_2, r_2_3, r_2_4, r_2_5, r_2_6, r_2_7, r_2_8, r_2_9, r_2_10, r_10_0, r_10_1, r_137_0, r_137_1, r_137_2, r_138_0, r_140_0, r_142_0, r_146_0, r_146_1, r_146_2, r_146_3, r_152_0, r_154_0, r_154_1, r_158_0, zrI, zrL, zrR, ne_eq, true_and, and_true, true_or, or_true, not_true_eq_false, not_false_eq_true, false_and, and_false, forall_const, true_implies, false_implies, implies_true, reduceCtorEq, Int.reduceEq, Int.reduceNe, Int.reduceLT, Int.reduceLE, Int.reduceNeg, Nat.reduceEqDiff, if_true, if_false, reduceIte, Int.reduceMul, Int.reduceAdd, Int.reduceSub]
            refine ⟨fun c => by omega, fun _ => ?_⟩
            rw [hy] at hxg ⊢
            refine t_waysOn hT cT.1 l0 l1 hw ct k (by omega) hxg ?_
            simp only [zrI, zrL, zrR, ne_eq, true_and, and_true, true_or, or_true, not_true_eq_false, not_false_eq_true, false_and, and_false, forall_const, true_implies, false_implies, implies_true, reduceCtorEq, Int.reduceEq, Int.reduceNe, Int.reduceLT, Int.reduceLE, Int.reduceNeg, Nat.reduceEqDiff, if_true, if_false, reduceIte, Int.reduceMul, Int.reduceAdd, Int.reduceSub]
            refine ⟨by omega, ?_⟩
            have e2 : sBt (WN (L l) i b o n) v x.toNat = sBt (WN (L l) i b o n) v y + WN (L l) i b o n (y + 1) := by
              rw [show x.toNat = y + 1 by omega]
              show (if v ≤ y then _ else 0) = _
              rw [if_pos (by omega)]
            have := ihm ((y : Int)) (acc' + WN (L l) i b o n (y + 1)) (by omega) (by omega) (by rw [Int.toNat_natCast]; omega)
            rw [← Int64.ofNat_add, show ((y + 1 : Nat) : Int) + -1 = (y : Int) by omega]
            exact this
      refine loop 400 (grN (L l) i b n) acc (by omega) (Int.le_refl _) ?_
      rw [sBt_tail (g := (grN (L l) i b n).toNat) (topN i b n) (by omega) (fun x a c => gr_zero (by omega) c)]
  refine r_Counter_waysAheadOf_0 ?_
  simp only [hS, (hS.sumO hg).1, hl.2.1, zrI, zrL, zrR, Shp_wI, Shp_wJ, zR_wI, zR_wJ, zJ_wI, zI_wJ, zobj_wI, zobj_wJ, zarr_wI, zarr_wJ, zS_wI, zS_wJ, o_2, a_3, a_4, a_5, o_10, a_11, a_12, o_137, o_138, a_139, o_140, a_141, o_142, a_143, o_146, a_147, a_148, a_149, o_152, a_153, o_154, a_157, o_158, a_159, r_2_0, r_2_1, r_2_2, r_2_3, r_2_4, r_2_5, r_2_6, r_2_7, r_2_8, r_2_9, r_2_10, r_10_0, r_10_1, r_137_0, r_137_1, r_137_2, r_138_0, r_140_0, r_142_0, r_146_0, r_146_1, r_146_2, r_146_3, r_152_0, r_154_0, r_154_1, r_158_0, zrI, zrL, zrR, ne_eq, true_and, and_true, true_or, or_true, not_true_eq_false, not_false_eq_true, false_and, and_false, forall_const, true_implies, false_implies, implies_true, reduceCtorEq, Int.reduceEq, Int.reduceNe, Int.reduceLT, Int.reduceLE, Int.reduceNeg, Nat.reduceEqDiff, if_true, if_false, reduceIte, Int.reduceMul, Int.reduceAdd, Int.reduceSub]
  have e0 : p.sum = (p.sum.toNat : Int) := by omega
  rw [e0]
  refine t_start hS co l0 l1 hw (by omega) (fun τ w1 w2 w3 => ?_)
  rw [← e0] at w2
  exact main p.length 0 0 0 p.sum.toNat 0 τ _ _ (by omega) (by simp; omega) w1 w2 ⟨fun _ => rfl, fun h => by omega, fun h => by omega, fun h => by omega, by omega, by omega, by omega, by omega, hcov⟩ w3 (fun σ' z1 z2 => by rw [Nat.zero_add]; exact q σ' z1 z2)
