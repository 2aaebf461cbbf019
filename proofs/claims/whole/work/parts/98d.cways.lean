/-! fillings, class: waysToFill, all of it -/
theorem exL_big {l : List Int} (hp : Pt l) (hn : l.sum ≤ 30) {q : Nat} (hq : q < 31) (h : l.sum < (q : Int)) : exL l q = 0 := by
  have hs := hp.len
  have v0 : ∀ v : Nat, v < q → vqN q v = 0 := fun v hv => by
    by_cases c : prB q = true
    · unfold vqN
      rw [c]
      by_cases c2 : Nat.ble 1 v = true
      · rw [c2]
        show mulV 6 q v = 0
        unfold mulV
        have : v % q = v := Nat.mod_eq_of_lt hv
        rw [this]
        rw [show Nat.beq v 0 = false from Bool.eq_false_iff.mpr (fun w => by
          have := Nat.eq_of_beq_eq_true w
          rw [this] at c2
          exact absurd c2 (by decide))]
        rfl
      · rw [show Nat.ble 1 v = false from Bool.eq_false_iff.mpr c2]
        rfl
    · exact pr_no (Bool.eq_false_iff.mpr c) v
  unfold exL
  rw [sm_ext (g := fun _ => 0) _ (fun v v0' v1 => by
    unfold vqI
    rw [v0 v.toNat (by omega)]
    rfl), sm_zero, hSm_ext (w := vqI q) (w' := fun _ => 0) (N := l.sum) (fun h h0 h1 => by
    unfold vqI
    rw [v0 h.toNat (by omega)]
    rfl) l hp (Int.le_refl _)]
  have z : ∀ t : List Int, hSm (fun _ => 0) t = 0 := fun t => by
    induction t with
    | nil => rfl
    | cons a t ih =>
      show sm (fun _ => 0) a.toNat + hSm (fun _ => 0) t = 0
      rw [sm_zero, ih]
      rfl
  rw [z]
  rfl
theorem fjP_ext {e : Nat → Int} {n : Nat} : ∀ k : Nat, (∀ q, n < q → q ≤ n + k → e q ≤ 0) → fjP e (n - 1 + k) = fjP e (n - 1) ∨ n = 0
  | 0, _ => Or.inl rfl
  | k + 1, h => by
    rcases fjP_ext k (fun q q1 q2 => h q q1 (by omega)) with w | w
    · by_cases c : n = 0
      · exact Or.inr c
      · refine Or.inl ?_
        show pw64 (fjP e (n - 1 + k)) _ (e (n - 1 + k + 2)).toNat = _
        have := h (n - 1 + k + 2) (by omega) (by omega)
        rw [show (e (n - 1 + k + 2)).toNat = 0 by omega]
        exact w
    · exact Or.inr w
theorem fjP_zero {e : Nat → Int} : ∀ k : Nat, (∀ q, 2 ≤ q → q ≤ k + 1 → e q ≤ 0) → fjP e k = 1
  | 0, _ => rfl
  | k + 1, h => by
    show pw64 (fjP e k) _ (e (k + 2)).toNat = 1
    have := h (k + 2) (by omega) (by omega)
    rw [show (e (k + 2)).toNat = 0 by omega]
    exact fjP_zero k (fun q q1 q2 => h q q1 (by omega))
theorem fjP_all {l : List Int} (hp : Pt l) (hn : l.sum ≤ 30) : fjP (exL l) (l.sum.toNat - 1) = fjP (exL l) 29 := by
  have hs := hp.len
  by_cases c : l.sum.toNat = 0
  · rw [c, fjP_zero 29 (fun q q1 q2 => by rw [exL_big hp hn (by omega) (by omega)]; exact Int.le_refl _)]
    rfl
  · rcases fjP_ext (e := exL l) (n := l.sum.toNat) (29 - (l.sum.toNat - 1)) (fun q q1 q2 => by rw [exL_big hp hn (by omega) (by omega)]; exact Int.le_refl _) with w | w
    · rw [show l.sum.toNat - 1 + (29 - (l.sum.toNat - 1)) = 29 by omega] at w
      exact w.symm
    · exact absurd w c
theorem hkS_bd {l : List Int} (hp : Pt l) {v : Int} : ∀ i : Nat, 0 ≤ hkS (fun h => if h = v then 1 else 0) l i ∧ hkS (fun h => if h = v then 1 else 0) l i ≤ (i : Int) * 400 := fun i => by
  have := sm_bd (f := fun r => sm (fun j => if hkN l r j = v then 1 else 0) (ga l r).toNat) (B := 400) i (fun r r0 r1 => by
    have h1 := sm_bd (f := fun j => if hkN l r j = v then 1 else 0) (B := 1) (ga l r).toNat (fun j j0 j1 => by split <;> omega)
    have h2 := hp.rng r
    omega)
  exact this
theorem t_ways {Q : ZQ} {σ : ZM} {g : Nat} {l : List Int} (hS : Shp σ) (hg : isS g) (hg5 : g ≠ 157 ∧ g + 1 ≠ 157) (hl : Lz σ g l) (hp : Pt l) (hn : l.sum ≤ 30) (q : ∀ σ', Fr (fun a => a = 157) σ σ' → Q (zl (fjP (exL l) 29)) σ') : WP m_Filler_waysToFill 0 [zr 154, zr g, zu, zu, zu, zu, zu] [] σ (0, 0) Q := by
  have hlen := hp.len
  have hl1 := hl.1
  obtain ⟨n, en⟩ : ∃ n : Nat, l.sum = (n : Int) := ⟨l.sum.toNat, by omega⟩
  have en' : l.sum.toNat = n := by omega
  have hs2 : ∀ τ, Lz τ g l → zI τ g 2 = (n : Int) := fun τ h => by rw [h.2.1]; exact en
  have k95 : ∀ (e v : Nat) (u1 u6 : PV) (τ : ZM), v + e = n - 1 → (∀ r : Nat, 2 ≤ r → r ≤ n → zI τ 157 (r : Int) = exL l r) → Fr (fun a => a = 157) σ τ → WP m_Filler_waysToFill 95 [zr 154, u1, zi (n : Int), zl (fjP (exL l) v), zu, zi ((v : Int) + 2), u6] [] τ (0, 0) Q := by
    intro e
    induction e with
    | zero =>
      intro v u1 u6 τ hv hx f1
      refine r_Filler_waysToFill_95 ⟨fun _ => ?_, fun w => by omega⟩
      have := fjP_all hp hn
      rw [en', show n - 1 = v by omega] at this
      rw [this]
      exact q τ f1
    | succ e ih =>
      intro v u1 u6 τ hv hx f1
      have hT := f1.shp hS
      refine r_Filler_waysToFill_95 ⟨fun w => by omega, fun _ => ?_⟩
      have vx := hx (v + 2) (by omega) (by omega)
      rw [show ((v + 2 : Nat) : Int) = (v : Int) + 2 by omega] at vx
      have k104 : ∀ (m i : Nat), i + m = (exL l (v + 2)).toNat → WP m_Filler_waysToFill 104 [zr 154, u1, zi (n : Int), zl (pw64 (fjP (exL l) v) (Int64.ofInt ((v : Int) + 2)) i), zu, zi ((v : Int) + 2), zi (i : Int)] [] τ (0, 0) Q := by
        intro m
        induction m with
        | zero =>
          intro i hi
          refine r_Filler_waysToFill_104 ?_
          simp only [hT, vx, zrI, zrL, zrR, Shp_wI, Shp_wJ, zR_wI, zR_wJ, zJ_wI, zI_wJ, zobj_wI, zobj_wJ, zarr_wI, zarr_wJ, zS_wI, zS_wJ, o_2, a_3, a_4, a_5, o_10, a_11, a_12, o_137, o_138, a_139, o_140, a_141, o_142, a_143, o_146, a_147, a_148, a_149, o_152, a_153, o_154, a_157, o_158, a_159, r_2_0, r_2_1, r_2_2, r_2_3, r_2_4, r_2_5, r_2_6, r_2_7, r_2_8, r_2_9, r_2_10, r_10_0, r_10_1, r_137_0, r_137_1, r_137_2, r_138_0, r_140_0, r_142_0, r_146_0, r_146_1, r_146_2, r_146_3, r_152_0, r_154_0, r_154_1, r_158_0, zrI, zrL, zrR, ne_eq, true_and, and_true, true_or, or_true, not_true_eq_false, not_false_eq_true, false_and, and_false, forall_const, true_implies, false_implies, implies_true, reduceCtorEq, Int.reduceEq, Int.reduceNe, Int.reduceLT, Int.reduceLE, Int.reduceNeg, Nat.reduceEqDiff, if_true, if_false, reduceIte, Int.reduceMul, Int.reduceAdd, Int.reduceSub]
          have := ih (v + 1) u1 (zi (i : Int)) τ (by omega) hx f1
          rw [show ((v + 1 : Nat) : Int) + 2 = (v : Int) + 2 + 1 by omega] at this
          have e2 : fjP (exL l) (v + 1) = pw64 (fjP (exL l) v) (Int64.ofInt ((v : Int) + 2)) (exL l (v + 2)).toNat := rfl
          rw [e2, show (exL l (v + 2)).toNat = i by omega] at this
          exact ⟨by omega, fun _ => ⟨by omega, this⟩, fun w => by omega⟩
        | succ m ihm =>
          intro i hi
          have eb : (exL l (v + 2)).toNat ≤ 2147483647 ∨ True := Or.inr trivial
          refine r_Filler_waysToFill_104 ?_
          simp only [hT, vx, zrI, zrL, zrR, Shp_wI, Shp_wJ, zR_wI, zR_wJ, zJ_wI, zI_wJ, zobj_wI, zobj_wJ, zarr_wI, zarr_wJ, zS_wI, zS_wJ, o_2, a_3, a_4, a_5, o_10, a_11, a_12, o_137, o_138, a_139, o_140, a_141, o_142, a_143, o_146, a_147, a_148, a_149, o_152, a_153, o_154, a_157, o_158, a_159, r_2_0, r_2_1, r_2_2, r_2_3, r_2_4, r_2_5, r_2_6, r_2_7, r_2_8, r_2_9, r_2_10, r_10_0, r_10_1, r_137_0, r_137_1, r_137_2, r_138_0, r_140_0, r_142_0, r_146_0, r_146_1, r_146_2, r_146_3, r_152_0, r_154_0, r_154_1, r_158_0, zrI, zrL, zrR, ne_eq, true_and, and_true, true_or, or_true, not_true_eq_false, not_false_eq_true, false_and, and_false, forall_const, true_implies, false_implies, implies_true, reduceCtorEq, Int.reduceEq, Int.reduceNe, Int.reduceLT, Int.reduceLE, Int.reduceNeg, Nat.reduceEqDiff, if_true, if_false, reduceIte, Int.reduceMul, Int.reduceAdd, Int.reduceSub]
          have := ihm (i + 1) (by omega)
          rw [Int.natCast_succ] at this
          have hz : -2147483648 ≤ exL l (v + 2) ∧ exL l (v + 2) ≤ 2147483647 := by
            have h1 : 0 ≤ hSm (vqI (v + 2)) l := by
              rw [← hkS_eq]
              exact sm_ge0 _ (fun r _ _ => sm_ge0 _ (fun j _ _ => by show 0 ≤ vqI (v + 2) (hkN l r j); unfold vqI; omega))
            have h2 := sm_bd (f := vqI (v + 2)) (B := 5) (l.sum.toNat + 1) (fun u u0 u1 => by
              unfold vqI
              by_cases c : u.toNat = 0
              · rw [c, (vq_small (v + 2) (by omega)).1]
                omega
              · have := (vq_out (m := u.toNat) (q := v + 2) (by omega) (by omega) (by omega) (by omega)).2.1
                omega)
            have h3 : exL l (v + 2) ≤ 2147483647 := by
              unfold exL
              omega
            omega
          exact ⟨by omega, fun w => by omega, fun _ => ⟨by omega, this⟩⟩
      exact k104 (exL l (v + 2)).toNat 0 (by omega)
  have k32 : ∀ (e i : Nat) (u4 u5 u6 : PV) (τ : ZM), i + e = l.length → Ow τ n (fun v => 1 - hkS (fun h => if h = v then 1 else 0) l i) → Fr (fun a => a = 157) σ τ → WP m_Filler_waysToFill 32 [zr 154, zr g, zi (n : Int), zi (i : Int), u4, u5, u6] [] τ (0, 0) Q := by
    intro e
    induction e with
    | zero =>
      intro i u4 u5 u6 τ hi ho f1
      have hT := f1.shp hS
      have hlT := f1.lz (by omega) (by omega) hl
      have hlT1 := hlT.1
      have ho' : Ow τ n (p0L l) := fun v v0 v1 => by
        have hv := ho v v0 v1
        rw [hv, show i = l.length by omega]
        show 1 - hkS (fun h => if h = v then 1 else 0) l l.length = 1 - hSm (fun h => if h = v then 1 else 0) l
        rw [hkS_eq]
      refine r_Filler_waysToFill_32 ?_
      simp only [hT, (hT.sumO hg).1, hlT1, zrI, zrL, zrR, Shp_wI, Shp_wJ, zR_wI, zR_wJ, zJ_wI, zI_wJ, zobj_wI, zobj_wJ, zarr_wI, zarr_wJ, zS_wI, zS_wJ, o_2, a_3, a_4, a_5, o_10, a_11, a_12, o_137, o_138, a_139, o_140, a_141, o_142, a_143, o_146, a_147, a_148, a_149, o_152, a_153, o_154, a_157, o_158, a_159, r_2_0, r_2_1, r_2_2, r_2_3, r_2_4, r_2_5, r_2_6, r_2_7, r_2_8, r_2_9, r_2_10, r_10_0, r_10_1, r_137_0, r_137_1, r_137_2, r_138_0, r_140_0, r_142_0, r_146_0, r_146_1, r_146_2, r_146_3, r_152_0, r_154_0, r_154_1, r_158_0, zrI, zrL, zrR, ne_eq, true_and, and_true, true_or, or_true, not_true_eq_false, not_false_eq_true, false_and, and_false, forall_const, true_implies, false_implies, implies_true, reduceCtorEq, Int.reduceEq, Int.reduceNe, Int.reduceLT, Int.reduceLE, Int.reduceNeg, Nat.reduceEqDiff, if_true, if_false, reduceIte, Int.reduceMul, Int.reduceAdd, Int.reduceSub]
      refine ⟨fun _ => t_break hT (by omega) ho' ?_ (fun υ p' w1 w2 w3 w4 => ?_), fun w => by omega⟩
      · have := sm_bd (f := fun u => u * ab (p0L l u)) (B := 30 * 160001) (n + 1) (fun u u0 u1 => by
          have h1 := hkS_bd hp (v := u) l.length
          rw [hkS_eq] at h1
          have h2 : 0 ≤ ab (p0L l u) ∧ ab (p0L l u) ≤ 160001 := by
            unfold p0L ab
            omega
          have h3 : u * ab (p0L l u) ≤ 30 * ab (p0L l u) := Int.mul_le_mul_of_nonneg_right (by omega) h2.1
          exact ⟨Int.mul_nonneg u0 h2.1, by omega⟩)
        omega
      · refine k95 (n - 1) 0 _ _ υ (by omega) (fun r r2 rn => ?_) (f1.tr w4)
        rw [w1 (r : Int) (by omega) (by omega), br_end (by omega) w3 r2 rn, w2 r (by omega), ← p0_ex hp r, en']
    | succ e ih =>
      intro i u4 u5 u6 τ hi ho f1
      have hT := f1.shp hS
      have hlT := f1.lz (by omega) (by omega) hl
      have hlT1 := hlT.1
      have hr := hp.rng (i : Int)
      have k43 : ∀ (m j : Nat) (υ : ZM), (j : Int) + m = ga l (i : Int) → Ow υ n (fun v => 1 - (hkS (fun h => if h = v then 1 else 0) l i + sm (fun j => if hkN l (i : Int) j = v then 1 else 0) j)) → Fr (fun a => a = 157) σ υ → WP m_Filler_waysToFill 43 [zr 154, zr g, zi (n : Int), zi (i : Int), zi (j : Int), u5, u6] [] υ (0, 0) Q := by
        intro m
        induction m with
        | zero =>
          intro j υ hj ho f1
          have hT := f1.shp hS
          have hlT := f1.lz (by omega) (by omega) hl
          refine r_Filler_waysToFill_43 ?_
          simp only [hT, (hT.sumO hg).1, zrI, zrL, zrR, Shp_wI, Shp_wJ, zR_wI, zR_wJ, zJ_wI, zI_wJ, zobj_wI, zobj_wJ, zarr_wI, zarr_wJ, zS_wI, zS_wJ, o_2, a_3, a_4, a_5, o_10, a_11, a_12, o_137, o_138, a_139, o_140, a_141, o_142, a_143, o_146, a_147, a_148, a_149, o_152, a_153, o_154, a_157, o_158, a_159, r_2_0, r_2_1, r_2_2, r_2_3, r_2_4, r_2_5, r_2_6, r_2_7, r_2_8, r_2_9, r_2_10, r_10_0, r_10_1, r_137_0, r_137_1, r_137_2, r_138_0, r_140_0, r_142_0, r_146_0, r_146_1, r_146_2, r_146_3, r_152_0, r_154_0, r_154_1, r_158_0, zrI, zrL, zrR, ne_eq, true_and, and_true, true_or, or_true, not_true_eq_false, not_false_eq_true, false_and, and_false, forall_const, true_implies, false_implies, implies_true, reduceCtorEq, Int.reduceEq, Int.reduceNe, Int.reduceLT, Int.reduceLE, Int.reduceNeg, Nat.reduceEqDiff, if_true, if_false, reduceIte, Int.reduceMul, Int.reduceAdd, Int.reduceSub]
          refine t_Sum_at (hT.sumO hg) hlT ?_
          simp only [hT, (hT.sumO hg).1, zrI, zrL, zrR, Shp_wI, Shp_wJ, zR_wI, zR_wJ, zJ_wI, zI_wJ, zobj_wI, zobj_wJ, zarr_wI, zarr_wJ, zS_wI, zS_wJ, o_2, a_3, a_4, a_5, o_10, a_11, a_12, o_137, o_138, a_139, o_140, a_141, o_142, a_143, o_146, a_147, a_148, a_149, o_152, a_153, o_154, a_157, o_158, a_159, r_2_0, r_2_1, r_2_2, r_2_3, r_2_4, r_2_5, r_2_6, r_2_7, r_2_8, r_2_9, r_2_10, r_10_0, r_10_1, r_137_0, r_137_1, r_137_2, r_138_0, r_140_0, r_142_0, r_146_0, r_146_1, r_146_2, r_146_3, r_152_0, r_154_0, r_154_1, r_158_0, zrI, zrL, zrR, ne_eq, true_and, and_true, true_or, or_true, not_true_eq_false, not_false_eq_true, false_and, and_false, forall_const, true_implies, false_implies, implies_true, reduceCtorEq, Int.reduceEq, Int.reduceNe, Int.reduceLT, Int.reduceLE, Int.reduceNeg, Nat.reduceEqDiff, if_true, if_false, reduceIte, Int.reduceMul, Int.reduceAdd, Int.reduceSub]
          have := ih (i + 1) (zi (j : Int)) u5 u6 υ (by omega) (fun v v0 v1 => by
            rw [ho v v0 v1]
            show 1 - (hkS (fun h => if h = v then 1 else 0) l i + sm (fun j => if hkN l (i : Int) j = v then 1 else 0) j) = 1 - (hkS (fun h => if h = v then 1 else 0) l i + sm (fun j => if hkN l (i : Int) j = v then 1 else 0) (ga l (i : Int)).toNat)
            rw [show (ga l (i : Int)).toNat = j by omega]) f1
          rw [Int.natCast_succ] at this
          exact ⟨fun _ => ⟨by omega, this⟩, fun w => by omega⟩
        | succ m ihm =>
          intro j υ hj ho f1
          have hT := f1.shp hS
          have hlT := f1.lz (by omega) (by omega) hl
          have hk := hk_bd hp i (j : Int) (by omega) (by omega)
          have hv := ho (hkN l (i : Int) (j : Int)) (by omega) (by omega)
          have b1 := hkS_bd hp (v := hkN l (i : Int) (j : Int)) i
          have b2 := sm_bd (f := fun j' => if hkN l (i : Int) j' = hkN l (i : Int) (j : Int) then 1 else 0) (B := 1) j (fun j _ _ => by split <;> omega)
          refine r_Filler_waysToFill_43 ?_
          simp only [hT, (hT.sumO hg).1, zrI, zrL, zrR, Shp_wI, Shp_wJ, zR_wI, zR_wJ, zJ_wI, zI_wJ, zobj_wI, zobj_wJ, zarr_wI, zarr_wJ, zS_wI, zS_wJ, o_2, a_3, a_4, a_5, o_10, a_11, a_12, o_137, o_138, a_139, o_140, a_141, o_142, a_143, o_146, a_147, a_148, a_149, o_152, a_153, o_154, a_157, o_158, a_159, r_2_0, r_2_1, r_2_2, r_2_3, r_2_4, r_2_5, r_2_6, r_2_7, r_2_8, r_2_9, r_2_10, r_10_0, r_10_1, r_137_0, r_137_1, r_137_2, r_138_0, r_140_0, r_142_0, r_146_0, r_146_1, r_146_2, r_146_3, r_152_0, r_154_0, r_154_1, r_158_0, zrI, zrL, zrR, ne_eq, true_and, and_true, true_or, or_true, not_true_eq_false, not_false_eq_true, false_and, and_false, forall_const, true_implies, false_implies, implies_true, reduceCtorEq, Int.reduceEq, Int.reduceNe, Int.reduceLT, Int.reduceLE, Int.reduceNeg, Nat.reduceEqDiff, if_true, if_false, reduceIte, Int.reduceMul, Int.reduceAdd, Int.reduceSub]
          refine t_Sum_at (hT.sumO hg) hlT ?_
          simp only [hT, (hT.sumO hg).1, zrI, zrL, zrR, Shp_wI, Shp_wJ, zR_wI, zR_wJ, zJ_wI, zI_wJ, zobj_wI, zobj_wJ, zarr_wI, zarr_wJ, zS_wI, zS_wJ, o_2, a_3, a_4, a_5, o_10, a_11, a_12, o_137, o_138, a_139, o_140, a_141, o_142, a_143, o_146, a_147, a_148, a_149, o_152, a_153, o_154, a_157, o_158, a_159, r_2_0, r_2_1, r_2_2, r_2_3, r_2_4, r_2_5, r_2_6, r_2_7, r_2_8, r_2_9, r_2_10, r_10_0, r_10_1, r_137_0, r_137_1, r_137_2, r_138_0, r_140_0, r_142_0, r_146_0, r_146_1, r_146_2, r_146_3, r_152_0, r_154_0, r_154_1, r_158_0, zrI, zrL, zrR, ne_eq, true_and, and_true, true_or, or_true, not_true_eq_false, not_false_eq_true, false_and, and_false, forall_const, true_implies, false_implies, implies_true, reduceCtorEq, Int.reduceEq, Int.reduceNe, Int.reduceLT, Int.reduceLE, Int.reduceNeg, Nat.reduceEqDiff, if_true, if_false, reduceIte, Int.reduceMul, Int.reduceAdd, Int.reduceSub]
          refine ⟨fun w => by omega, fun _ => t_Sum_hookAt (hT.sumO hg) hp hlT (by omega) (by omega) (by omega) (by omega) ?_⟩
          simp only [zrI, zrL, zrR, ne_eq, true_and, and_true, true_or, or_true, not_true_eq_false, not_false_eq_true, false_and, and_false, forall_const, true_implies, false_implies, implies_true, reduceCtorEq, Int.reduceEq, Int.reduceNe, Int.reduceLT, Int.reduceLE, Int.reduceNeg, Nat.reduceEqDiff, if_true, if_false, reduceIte, Int.reduceMul, Int.reduceAdd, Int.reduceSub]
          refine t_min ?_
          rw [show min (n : Int) (hkN l (i : Int) (j : Int)) = hkN l (i : Int) (j : Int) by omega]
          simp only [hT, hv, zrI, zrL, zrR, Shp_wI, Shp_wJ, zR_wI, zR_wJ, zJ_wI, zI_wJ, zobj_wI, zobj_wJ, zarr_wI, zarr_wJ, zS_wI, zS_wJ, o_2, a_3, a_4, a_5, o_10, a_11, a_12, o_137, o_138, a_139, o_140, a_141, o_142, a_143, o_146, a_147, a_148, a_149, o_152, a_153, o_154, a_157, o_158, a_159, r_2_0, r_2_1, r_2_2, r_2_3, r_2_4, r_2_5, r_2_6, r_2_7, r_2_8, r_2_9, r_2_10, r_10_0, r_10_1, r_137_0, r_137_1, r_137_2, r_138_0, r_140_0, r_142_0, r_146_0, r_146_1, r_146_2, r_146_3, r_152_0, r_154_0, r_154_1, r_158_0, zrI, zrL, zrR, ne_eq, true_and, and_true, true_or, or_true, not_true_eq_false, not_false_eq_true, false_and, and_false, forall_const, true_implies, false_implies, implies_true, reduceCtorEq, Int.reduceEq, Int.reduceNe, Int.reduceLT, Int.reduceLE, Int.reduceNeg, Nat.reduceEqDiff, if_true, if_false, reduceIte, Int.reduceMul, Int.reduceAdd, Int.reduceSub]
          have := ihm (j + 1) (wI υ 157 (hkN l (i : Int) (j : Int)) (1 - (hkS (fun h => if h = hkN l (i : Int) (j : Int) then 1 else 0) l i + sm (fun j' => if hkN l (i : Int) j' = hkN l (i : Int) (j : Int) then 1 else 0) j) - 1)) (by omega) (fun v v0 v1 => by
            rw [zI_wI]
            show _ = 1 - (hkS (fun h => if h = v then 1 else 0) l i + (sm (fun j => if hkN l (i : Int) j = v then 1 else 0) j + (if hkN l (i : Int) (j : Int) = v then 1 else 0)))
            by_cases c : v = hkN l (i : Int) (j : Int)
            · rw [if_pos ⟨rfl, c⟩, if_pos c.symm, c]
              omega
            · rw [if_neg (fun w => c w.2), if_neg (fun w => c w.symm), ho v v0 v1]
              show 1 - (hkS (fun h => if h = v then 1 else 0) l i + sm (fun j => if hkN l (i : Int) j = v then 1 else 0) j) = _
              omega) (f1.tr (Fr.wI rfl))
          rw [Int.natCast_succ] at this
          exact ⟨by omega, by omega, by omega, by omega, this⟩
      refine r_Filler_waysToFill_32 ?_
      simp only [hT, (hT.sumO hg).1, hlT1, zrI, zrL, zrR, Shp_wI, Shp_wJ, zR_wI, zR_wJ, zJ_wI, zI_wJ, zobj_wI, zobj_wJ, zarr_wI, zarr_wJ, zS_wI, zS_wJ, o_2, a_3, a_4, a_5, o_10, a_11, a_12, o_137, o_138, a_139, o_140, a_141, o_142, a_143, o_146, a_147, a_148, a_149, o_152, a_153, o_154, a_157, o_158, a_159, r_2_0, r_2_1, r_2_2, r_2_3, r_2_4, r_2_5, r_2_6, r_2_7, r_2_8, r_2_9, r_2_10, r_10_0, r_10_1, r_137_0, r_137_1, r_137_2, r_138_0, r_140_0, r_142_0, r_146_0, r_146_1, r_146_2, r_146_3, r_152_0, r_154_0, r_154_1, r_158_0, zrI, zrL, zrR, ne_eq, true_and, and_true, true_or, or_true, not_true_eq_false, not_false_eq_true, false_and, and_false, forall_const, true_implies, false_implies, implies_true, reduceCtorEq, Int.reduceEq, Int.reduceNe, Int.reduceLT, Int.reduceLE, Int.reduceNeg, Nat.reduceEqDiff, if_true, if_false, reduceIte, Int.reduceMul, Int.reduceAdd, Int.reduceSub]
      refine ⟨fun w => by omega, fun _ => k43 (ga l (i : Int)).toNat 0 τ (by omega) (fun v v0 v1 => ?_) f1⟩
      rw [ho v v0 v1]
      show 1 - hkS (fun h => if h = v then 1 else 0) l i = 1 - (hkS (fun h => if h = v then 1 else 0) l i + 0)
      omega
  have k12 : ∀ (e i : Nat) (u4 u5 u6 : PV) (τ : ZM), i + e = n + 1 → (∀ v : Int, 0 ≤ v → v < (i : Int) → zI τ 157 v = 1) → Fr (fun a => a = 157) σ τ → WP m_Filler_waysToFill 12 [zr 154, zr g, zi (n : Int), zi (i : Int), u4, u5, u6] [] τ (0, 0) Q := by
    intro e
    induction e with
    | zero =>
      intro i u4 u5 u6 τ hi ho f1
      exact r_Filler_waysToFill_12 ⟨fun _ => k32 l.length 0 _ _ _ τ (by omega) (fun v v0 v1 => by rw [ho v v0 (by omega)]; rfl) f1, fun w => by omega⟩
    | succ e ih =>
      intro i u4 u5 u6 τ hi ho f1
      have hT := f1.shp hS
      refine r_Filler_waysToFill_12 ?_
      simp only [hT, zrI, zrL, zrR, Shp_wI, Shp_wJ, zR_wI, zR_wJ, zJ_wI, zI_wJ, zobj_wI, zobj_wJ, zarr_wI, zarr_wJ, zS_wI, zS_wJ, o_2, a_3, a_4, a_5, o_10, a_11, a_12, o_137, o_138, a_139, o_140, a_141, o_142, a_143, o_146, a_147, a_148, a_149, o_152, a_153, o_154, a_157, o_158, a_159, r_2_0, r_2_1, r_2_2, r_2_3, r_2_4, r_2_5, r_2_6, r_2_7, r_2_8, r_2_9, r_2_10, r_10_0, r_10_1, r_137_0, r_137_1, r_137_2, r_138_0, r_140_0, r_142_0, r_146_0, r_146_1, r_146_2, r_146_3, r_152_0, r_154_0, r_154_1, r_158_0, zrI, zrL, zrR, ne_eq, true_and, and_true, true_or, or_true, not_true_eq_false, not_false_eq_true, false_and, and_false, forall_const, true_implies, false_implies, implies_true, reduceCtorEq, Int.reduceEq, Int.reduceNe, Int.reduceLT, Int.reduceLE, Int.reduceNeg, Nat.reduceEqDiff, if_true, if_false, reduceIte, Int.reduceMul, Int.reduceAdd, Int.reduceSub]
      have := ih (i + 1) u4 u5 u6 (wI τ 157 (i : Int) 1) (by omega) (fun v v0 v1 => by
        rw [zI_wI]
        by_cases c : v = (i : Int)
        · rw [if_pos ⟨rfl, c⟩]
        · rw [if_neg (by omega)]
          exact ho v v0 (by omega)) (f1.tr (Fr.wI rfl))
      rw [Int.natCast_succ] at this
      exact ⟨fun w => by omega, fun _ => ⟨by omega, by omega, this⟩⟩
  have hs0 := hs2 σ hl
  refine r_Filler_waysToFill_0 ?_
  simp only [(hS.sumO hg).1, hs0, zrI, zrL, zrR, ne_eq, true_and, and_true, true_or, or_true, not_true_eq_false, not_false_eq_true, false_and, and_false, forall_const, true_implies, false_implies, implies_true, reduceCtorEq, Int.reduceEq, Int.reduceNe, Int.reduceLT, Int.reduceLE, Int.reduceNeg, Nat.reduceEqDiff, if_true, if_false, reduceIte, Int.reduceMul, Int.reduceAdd, Int.reduceSub]
  refine t_min ?_
  simp only [zrI, zrL, zrR, ne_eq, true_and, and_true, true_or, or_true, not_true_eq_false, not_false_eq_true, false_and, and_false, forall_const, true_implies, false_implies, implies_true, reduceCtorEq, Int.reduceEq, Int.reduceNe, Int.reduceLT, Int.reduceLE, Int.reduceNeg, Nat.reduceEqDiff, if_true, if_false, reduceIte, Int.reduceMul, Int.reduceAdd, Int.reduceSub]
  rw [show min (n : Int) 30 = (n : Int) by omega]
  exact k12 (n + 1) 0 _ _ _ σ (by omega) (fun v v0 v1 => by omega) Fr.rf
