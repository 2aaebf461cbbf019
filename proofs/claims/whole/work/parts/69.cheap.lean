/-! heap, of the class -/
theorem t_waysByRank {Q : ZQ} {σ : ZM} {n m r : Int} (hS : Shp σ) (hB : BoxI σ) (n0 : 1 ≤ n) (n1 : n ≤ 60) (m0 : 1 ≤ m) (m1 : m ≤ 60) (q : ∀ σ', BoxI σ' → Fz bxf σ σ' → Q (zl (rkS n m r)) σ') : WP m_Box_waysByRank 0 [zr 140, zi n, zi m, zi r, zu, zu, zu, zu] [] σ (0, 0) Q := by
  refine r_Box_waysByRank_0 ?_
  simp only [hS, zrI, zrL, zrR, Shp_wI, Shp_wJ, zR_wI, zR_wJ, zJ_wI, zI_wJ, zobj_wI, zobj_wJ, zarr_wI, zarr_wJ, zS_wI, zS_wJ, o_2, a_3, a_4, a_5, o_10, a_11, a_12, o_137, o_138, a_139, o_140, a_141, o_142, a_143, o_146, a_147, a_148, a_149, o_152, a_153, o_154, a_157, o_158, a_159, r_2_0, r_2_1, r_2_2, r_2_3, r_2_4, r_2_5, r_2_6, r_2_7, r_2_8, r_2_9, r_2_10, r_10_0, r_10_1, r_137_0, r_137_1, r_137_2, r_138_0, r_140_0, r_142_0, r_146_0, r_146_1, r_146_2, r_146_3, r_152_0, r_154_0, r_154_1, r_158_0, zrI, zrL, zrR, ne_eq, true_and, and_true, true_or, or_true, not_true_eq_false, not_false_eq_true, false_and, and_false, forall_const, true_implies, false_implies, implies_true, reduceCtorEq, Int.reduceEq, Int.reduceNe, Int.reduceLT, Int.reduceLE, Int.reduceNeg, Nat.reduceEqDiff, if_true, if_false, reduceIte, Int.reduceMul, Int.reduceAdd, Int.reduceSub]
  refine t_Box_prepare hS hB (by omega) n1 (fun τ w1 w2 w3 => ?_)
  obtain ⟨f, f1, f2⟩ := w2
  have hT := w3.shp hS
  have inner : ∀ (i : Nat), (i : Int) < n → (∀ u7 : PV, WP m_Box_waysByRank 11 [zr 140, zi n, zi m, zi r, zl (sI (fun i => rkR n m r i) (i + 1)), zu, zi ((i : Int) + 2), u7] [] τ (0, 0) Q) → ∀ (g j : Nat), (j : Int) + g = n - i → WP m_Box_waysByRank 20 [zr 140, zi n, zi m, zi r, zl (sI (fun i => rkR n m r i) i + sI (fun j => rkT n m r ((i : Int) + 1) ((j : Int) + 1)) j), zu, zi ((i : Int) + 1), zi ((j : Int) + 1)] [] τ (0, 0) Q := by
    intro i hi next g
    induction g with
    | zero =>
      intro j hj
      refine r_Box_waysByRank_20 ⟨by omega, by omega, fun _ => ⟨by omega, ?_⟩, fun c => by omega⟩
      have := next (zi ((j : Int) + 1))
      rw [show (i : Int) + 2 = (i : Int) + 1 + 1 by omega] at this
      have e : sI (fun i => rkR n m r i) (i + 1) = sI (fun i => rkR n m r i) i + sI (fun j => rkT n m r ((i : Int) + 1) ((j : Int) + 1)) j := by
        show sI (fun i => rkR n m r i) i + rkR n m r i = _
        unfold rkR
        rw [show (n - (i : Int)).toNat = j by omega]
      rw [e] at this
      exact this
    | succ g ih =>
      intro j hj
      have ihj := ih (j + 1) (by omega)
      rw [Int.natCast_succ] at ihj
      have e : sI (fun i => rkR n m r i) i + sI (fun j => rkT n m r ((i : Int) + 1) ((j : Int) + 1)) (j + 1) = (sI (fun i => rkR n m r i) i + sI (fun j => rkT n m r ((i : Int) + 1) ((j : Int) + 1)) j) + rkT n m r ((i : Int) + 1) ((j : Int) + 1) := by
        show _ + (_ + _) = _
        rw [Int64.add_assoc]
      rw [e] at ihj
      unfold rkT at ihj
      refine r_Box_waysByRank_20 ⟨by omega, by omega, fun c => by omega, fun _ => ⟨by omega, t_floorMod (by omega) (by omega) ?_⟩⟩
      refine ⟨fun c => ⟨by omega, ?_⟩, fun c => ?_⟩
      · rw [if_neg c, Int64.add_zero] at ihj
        exact ihj
      · rw [if_pos c] at ihj
        refine ⟨by omega, by omega, by omega, by omega, by omega, hT.obj (by decide) (by decide) rfl, t_Box_at hT f2 (by omega) (by omega) ⟨by omega, ?_⟩⟩
        exact ihj
  have outer : ∀ (g i : Nat) (u7 : PV), (i : Int) + g = n → WP m_Box_waysByRank 11 [zr 140, zi n, zi m, zi r, zl (sI (fun i => rkR n m r i) i), zu, zi ((i : Int) + 1), u7] [] τ (0, 0) Q := by
    intro g
    induction g with
    | zero =>
      intro i u7 hi
      refine r_Box_waysByRank_11 ⟨fun _ => ?_, fun c => by omega⟩
      rw [show i = n.toNat by omega]
      exact q τ w1 w3
    | succ g ih =>
      intro i u7 hi
      refine r_Box_waysByRank_11 ⟨fun c => by omega, fun _ => ?_⟩
      have := inner i (by omega) (fun u7 => by
        have := ih (i + 1) u7 (by omega)
        rw [Int.natCast_succ, show (i : Int) + 1 + 1 = (i : Int) + 2 by omega] at this
        exact this) (n - i).toNat 0 (by omega)
      have e : sI (fun j => rkT n m r ((i : Int) + 1) ((j : Int) + 1)) 0 = 0 := rfl
      rw [e, Int64.add_zero] at this
      exact this
  exact outer n.toNat 0 _ (by omega)
theorem bx_all {p q n : Int} (h : n ≤ p) (p0 : 0 ≤ p) (q0 : 0 ≤ q) (n4 : n ≤ 400) : bxL p q n = if n < 0 then 0 else Int64.ofNat (PB q.toNat n.toNat) := by
  unfold bxL
  by_cases c : n < 0
  · rw [if_pos (by omega), if_pos c]
  · rw [if_neg (by omega), if_neg c, BB_all _ _ _ (by omega) (by omega)]
theorem t_withoutOnes {Q : ZQ} {σ : ZM} {n t f : Int} (hS : Shp σ) (hB : BoxV σ f) (hf : n ≤ f) (n0 : 0 ≤ n) (n6 : n ≤ 60) (t1 : 1 ≤ t) (q : Q (zl (Int64.ofNat (T2 t.toNat n.toNat))) σ) : WP m_Box_withoutOnes 0 [zr 140, zi n, zi t] [] σ (0, 0) Q := by
  have o : zobj σ 140 1 := hS.obj (by decide) (by decide) rfl
  have e : bxL n t n - bxL n t (n - 1) = Int64.ofNat (T2 t.toNat n.toNat) := by
    have h := PB_T2 t.toNat n.toNat (by omega) (by omega)
    rw [bx_all (show n ≤ n by omega) n0 (by omega) (by omega), bx_all (show n - 1 ≤ n by omega) n0 (by omega) (by omega), if_neg (show ¬ n < 0 by omega), h]
    by_cases c : 1 ≤ n
    · rw [if_pos (show 1 ≤ n.toNat by omega), if_neg (show ¬ n - 1 < 0 by omega), show n.toNat - 1 = (n - 1).toNat by omega, Int64.ofNat_add]
      grind
    · rw [if_neg (show ¬ 1 ≤ n.toNat by omega), if_pos (show n - 1 < 0 by omega), Nat.add_zero, Int64.sub_zero]
  rw [← e] at q
  exact r_Box_withoutOnes_0 ⟨o, t_Box_at hS hB hf n6 ⟨by omega, o, t_Box_at hS hB (by omega) (by omega) q⟩⟩
theorem t_withOnes {Q : ZQ} {σ : ZM} {n w j f : Int} (hS : Shp σ) (hB : BoxV σ f) (hf : n ≤ f) (n6 : n ≤ 60) (w1 : 1 ≤ w) (j0 : 0 ≤ j) (hj : j * (w + 1) ≤ n - w) (hj0 : 0 ≤ j * (w + 1)) (q : Q (zl (wOn n w j)) σ) : WP m_Box_withOnes 0 [zr 140, zi n, zi w, zi j, zu, zu, zu, zu] [] σ (0, 0) Q := by
  have o : zobj σ 140 1 := hS.obj (by decide) (by decide) rfl
  refine r_Box_withOnes_0 ⟨by omega, by omega, by omega, by omega, ?_⟩
  unfold wOn at q
  generalize hfr : n - w - j * (w + 1) = fr at q ⊢
  have key : ∀ (g i : Nat) (u1 : PV), (i : Int) + g = fr + 1 → WP m_Box_withOnes 17 [zr 140, u1, zi w, zi j, zi fr, zl (sI (fun i => Int64.ofNat (T2 w.toNat i) * Int64.ofNat (BB j.toNat 60 (fr.toNat - i))) i), zu, zi (i : Int)] [] σ (0, 0) Q := by
    intro g
    induction g with
    | zero =>
      intro i u1 hi
      refine r_Box_withOnes_17 ⟨fun _ => ?_, fun c => by omega⟩
      rw [show (fr + 1).toNat = i by omega] at q
      exact q
    | succ g ih =>
      intro i u1 hi
      refine r_Box_withOnes_17 ⟨fun c => by omega, fun _ => ⟨o, t_withoutOnes hS hB (by omega) (by omega) (by omega) w1 ⟨by omega, o, t_Box_at hS hB (by omega) (by omega) ⟨by omega, ?_⟩⟩⟩⟩
      have := ih (i + 1) u1 (by omega)
      have eb : bxL j fr (fr - (i : Int)) = Int64.ofNat (BB j.toNat 60 (fr.toNat - i)) := by
        unfold bxL
        rw [if_neg (by omega), show (fr - (i : Int)).toNat = fr.toNat - i by omega, BB_clipq (show fr.toNat - i ≤ fr.toNat by omega), BB_clipq (show fr.toNat - i ≤ 60 by omega)]
      rw [eb, Int.toNat_natCast]
      rw [Int.natCast_succ] at this
      exact this
  exact key (fr + 1).toNat 0 _ (by omega)
theorem wOn_zero {n w j : Int} (h : n - w < j * (w + 1)) : wOn n w j = 0 := by
  unfold wOn
  rw [show (n - w - j * (w + 1) + 1).toNat = 0 by omega]
  rfl
theorem jw_mono {j k w : Int} (h : j ≤ k) (w0 : 0 ≤ w) : j * w ≤ k * w := Int.mul_le_mul_of_nonneg_right h w0
theorem t_waysByCrank {Q : ZQ} {σ : ZM} {n m r : Int} (hS : Shp σ) (hB : BoxI σ) (n0 : 1 ≤ n) (n1 : n ≤ 60) (m0 : 1 ≤ m) (m1 : m ≤ 60) (q : ∀ σ', BoxI σ' → Fz bxf σ σ' → Q (zl (ckS n m r)) σ') : WP m_Box_waysByCrank 0 [zr 140, zi n, zi m, zi r, zu, zu, zu, zu] [] σ (0, 0) Q := by
  refine r_Box_waysByCrank_0 ?_
  simp only [hS, zrI, zrL, zrR, Shp_wI, Shp_wJ, zR_wI, zR_wJ, zJ_wI, zI_wJ, zobj_wI, zobj_wJ, zarr_wI, zarr_wJ, zS_wI, zS_wJ, o_2, a_3, a_4, a_5, o_10, a_11, a_12, o_137, o_138, a_139, o_140, a_141, o_142, a_143, o_146, a_147, a_148, a_149, o_152, a_153, o_154, a_157, o_158, a_159, r_2_0, r_2_1, r_2_2, r_2_3, r_2_4, r_2_5, r_2_6, r_2_7, r_2_8, r_2_9, r_2_10, r_10_0, r_10_1, r_137_0, r_137_1, r_137_2, r_138_0, r_140_0, r_142_0, r_146_0, r_146_1, r_146_2, r_146_3, r_152_0, r_154_0, r_154_1, r_158_0, zrI, zrL, zrR, ne_eq, true_and, and_true, true_or, or_true, not_true_eq_false, not_false_eq_true, false_and, and_false, forall_const, true_implies, false_implies, implies_true, reduceCtorEq, Int.reduceEq, Int.reduceNe, Int.reduceLT, Int.reduceLE, Int.reduceNeg, Nat.reduceEqDiff, if_true, if_false, reduceIte, Int.reduceMul, Int.reduceAdd, Int.reduceSub]
  refine t_Box_prepare hS hB (by omega) n1 (fun τ w1 w2 w3 => ?_)
  obtain ⟨f, f1, f2⟩ := w2
  have hT := w3.shp hS
  have o : zobj τ 140 1 := hT.obj (by decide) (by decide) rfl
  have A : Int64 → Prop := fun _ => True
  have inner : ∀ (a : Int64) (i : Nat), (i : Int) < n → (∀ u7 : PV, WP m_Box_waysByCrank 56 [zr 140, zi n, zi m, zi r, zl (a + sI (fun i => ckR n m r i) (i + 1)), zu, zi ((i : Int) + 2), u7] [] τ (0, 0) Q) → ∀ (g j : Nat), j + g = 61 → WP m_Box_waysByCrank 65 [zr 140, zi n, zi m, zi r, zl (a + sI (fun i => ckR n m r i) i + sI (fun j => ckT n m r ((i : Int) + 1) j) j), zu, zi ((i : Int) + 1), zi (j : Int)] [] τ (0, 0) Q := by
    intro a i hi next g
    have stop : ∀ j : Nat, j ≤ 61 → n - ((i : Int) + 1) < (j : Int) * ((i : Int) + 1 + 1) → WP m_Box_waysByCrank 56 [zr 140, zi n, zi m, zi r, zl (a + sI (fun i => ckR n m r i) i + sI (fun j => ckT n m r ((i : Int) + 1) j) j), zu, zi ((i : Int) + 1 + 1), zi (j : Int)] [] τ (0, 0) Q := fun j hj c => by
      have := next (zi (j : Int))
      rw [show (i : Int) + 2 = (i : Int) + 1 + 1 by omega] at this
      have e : a + sI (fun i => ckR n m r i) (i + 1) = a + sI (fun i => ckR n m r i) i + sI (fun j => ckT n m r ((i : Int) + 1) j) j := by
        show a + (sI (fun i => ckR n m r i) i + ckR n m r i) = _
        unfold ckR
        rw [sI_tail (k := j) 61 hj (fun k h1 h2 => ?_), Int64.add_assoc]
        unfold ckT
        have := jw_mono (show (j : Int) ≤ (k : Int) by omega) (show 0 ≤ (i : Int) + 1 + 1 by omega)
        rw [wOn_zero (by omega)]
        split <;> rfl
      rw [e] at this
      exact this
    induction g with
    | zero =>
      intro j hj
      have hb := mul_bd (x := (j : Int)) (y := (i : Int) + 1 + 1) (X := 61) (Y := 62) (by omega) (by omega)
      have hmul := jw_mono (show (61 : Int) ≤ (j : Int) by omega) (show 0 ≤ (i : Int) + 1 + 1 by omega)
      refine r_Box_waysByCrank_65 ⟨by omega, by omega, by omega, fun c => ⟨by omega, stop j (by omega) c⟩, fun c => by omega⟩
    | succ g ih =>
      intro j hj
      have hb := mul_bd (x := (j : Int)) (y := (i : Int) + 1 + 1) (X := 61) (Y := 62) (by omega) (by omega)
      have hnn : 0 ≤ (j : Int) * ((i : Int) + 1 + 1) := Int.mul_nonneg (by omega) (by omega)
      have ihj := ih (j + 1) (by omega)
      rw [Int.natCast_succ] at ihj
      have e : a + sI (fun i => ckR n m r i) i + sI (fun j => ckT n m r ((i : Int) + 1) j) (j + 1) = (a + sI (fun i => ckR n m r i) i + sI (fun j => ckT n m r ((i : Int) + 1) j) j) + ckT n m r ((i : Int) + 1) j := by
        show _ + (_ + _) = _
        rw [Int64.add_assoc (a + sI (fun i => ckR n m r i) i)]
      rw [e] at ihj
      unfold ckT at ihj
      refine r_Box_waysByCrank_65 ⟨by omega, by omega, by omega, fun c => ⟨by omega, stop j (by omega) c⟩, fun c => ⟨by omega, t_floorMod (by omega) (by omega) ⟨fun c2 => ⟨by omega, ?_⟩, fun c2 => ⟨o, ?_⟩⟩⟩⟩
      · rw [if_neg c2, Int64.add_zero] at ihj
        exact ihj
      · rw [if_pos c2] at ihj
        refine t_withOnes hT f2 f1 n1 (by omega) (by omega) c hnn ⟨by omega, ?_⟩
        exact ihj
  have outer : ∀ (a : Int64), (∀ σ', BoxI σ' → Fz bxf σ σ' → Q (zl (a + sI (fun i => ckR n m r i) n.toNat)) σ') → ∀ (g i : Nat) (u7 : PV), (i : Int) + g = n → WP m_Box_waysByCrank 56 [zr 140, zi n, zi m, zi r, zl (a + sI (fun i => ckR n m r i) i), zu, zi ((i : Int) + 1), u7] [] τ (0, 0) Q := by
    intro a q g
    induction g with
    | zero =>
      intro i u7 hi
      refine r_Box_waysByCrank_56 ⟨fun _ => ?_, fun c => by omega⟩
      rw [show i = n.toNat by omega]
      exact q τ w1 w3
    | succ g ih =>
      intro i u7 hi
      refine r_Box_waysByCrank_56 ⟨fun c => by omega, fun _ => ?_⟩
      have := inner a i (by omega) (fun u7 => by
        have := ih (i + 1) u7 (by omega)
        rw [Int.natCast_succ, show (i : Int) + 1 + 1 = (i : Int) + 2 by omega] at this
        exact this) 61 0 (by omega)
      have e : sI (fun j => ckT n m r ((i : Int) + 1) j) 0 = 0 := rfl
      rw [e, Int64.add_zero] at this
      exact this
  have first : ∀ (g i : Nat) (u7 : PV), (i : Int) + g = n - 1 → WP m_Box_waysByCrank 11 [zr 140, zi n, zi m, zi r, zl (sI (fun i => ckA n m r i) i), zu, zi ((i : Int) + 2), u7] [] τ (0, 0) Q := by
    intro g
    induction g with
    | zero =>
      intro i u7 hi
      refine r_Box_waysByCrank_11 ⟨fun _ => ?_, fun c => by omega⟩
      rw [show i = (n - 1).toNat by omega]
      have := outer (sI (fun i => ckA n m r i) (n - 1).toNat) q n.toNat 0 u7 (by omega)
      have e : sI (fun i => ckR n m r i) 0 = 0 := rfl
      rw [e, Int64.add_zero] at this
      exact this
    | succ g ih =>
      intro i u7 hi
      have hd : 0 ≤ Int.tdiv ((i : Int) + 2) m ∧ Int.tdiv ((i : Int) + 2) m ≤ (i : Int) + 2 := by
        rw [Int.tdiv_eq_ediv_of_nonneg (by omega)]
        exact ⟨Int.ediv_nonneg (by omega) (by omega), Int.ediv_le_self _ (by omega)⟩
      have ihi := ih (i + 1) u7 (by omega)
      have e : sI (fun i => ckA n m r i) (i + 1) = sI (fun i => ckA n m r i) i + ckA n m r i := rfl
      rw [e, Int.natCast_succ, show (i : Int) + 1 + 2 = (i : Int) + 2 + 1 by omega] at ihi
      unfold ckA at ihi
      refine r_Box_waysByCrank_11 ⟨fun c => by omega, fun _ => ⟨by omega, by omega, ?_⟩⟩
      rw [Int.tmod_eq_emod_of_nonneg (by omega)]
      refine ⟨fun c => ⟨by omega, ?_⟩, fun c => ⟨o, t_withoutOnes hT f2 f1 (by omega) n1 (by omega) ⟨by omega, o, t_withoutOnes hT f2 f1 (by omega) n1 (by omega) ⟨by omega, ?_⟩⟩⟩⟩
      · rw [if_neg c, Int64.add_zero] at ihi
        exact ihi
      · rw [if_pos c] at ihi
        have hr := T2_rec (w := i + 1) (n := n.toNat) (by omega) (by omega)
        rw [if_pos (by omega)] at hr
        rw [show ((i : Int) + 2).toNat = i + 2 by omega, show ((i : Int) + 2 - 1).toNat = i + 1 by omega]
        have e2 : Int64.ofNat (T2 (i + 2) n.toNat) - Int64.ofNat (T2 (i + 1) n.toNat) = Int64.ofNat (T2 (i + 2) (n.toNat - (i + 2))) := by
          show Int64.ofNat (T2 (i + 1 + 1) n.toNat) - _ = _
          rw [hr, Int64.ofNat_add]
          grind
        rw [e2]
        exact ihi
  exact first (n - 1).toNat 0 _ (by omega)
def hpS (k n m r : Int) : Int64 := if n = 0 then (if r = 0 then 1 else 0) else if k = 0 then rkS n m r else ckS n m r
theorem t_heap {Q : ZQ} {σ : ZM} {L : Int → LW} {k n m r : Int} (hS : Shp σ) (co : CoI σ L) (hm : -2147483648 ≤ m ∧ m ≤ 2147483647)
    (q0 : (k < 0 ∨ 1 < k ∨ n < 0 ∨ 60 < n ∨ m < 1 ∨ 60 < m ∨ r < 0 ∨ m - 1 < r) → Q (zl (Int64.ofNat 18446744073709551614)) σ) (q1 : 0 ≤ k → k ≤ 1 → 0 ≤ n → n ≤ 60 → 1 ≤ m → m ≤ 60 → 0 ≤ r → r ≤ m - 1 → ∀ σ', CoI σ' L → Fz cof σ σ' → Q (zl (hpS k n m r)) σ') : WP m_PP_heap 0 [zr 2, zi k, zi n, zi m, zi r] [] σ (0, 0) Q := by
  have up : ∀ σ', BoxI σ' → Fz bxf σ σ' → CoI σ' L ∧ Fz cof σ σ' := fun σ' h f => ⟨⟨f.lawsP (fun a j _ _ _ => by omega) co.1, f.lawsK (fun a j _ _ _ => by omega) co.2.1, f.tabI (fun j => by omega) (fun j => by omega) co.2.2.1, h⟩, f.mono (fun a j w => by omega)⟩
  refine r_PP_heap_0 (t_isWithin (fun k0 k1 => ?_) (fun c => ?_))
  · simp only [zrI, zrL, zrR, ne_eq, true_and, and_true, true_or, or_true, not_true_eq_false, not_false_eq_true, false_and, and_false, forall_const, true_implies, false_implies, implies_true, reduceCtorEq, Int.reduceEq, Int.reduceNe, Int.reduceLT, Int.reduceLE, Int.reduceNeg, Nat.reduceEqDiff, if_true, if_false, reduceIte, Int.reduceMul, Int.reduceAdd, Int.reduceSub]
    refine t_isWithin (fun n0 n1 => ?_) (fun c => ?_)
    · simp only [zrI, zrL, zrR, ne_eq, true_and, and_true, true_or, or_true, not_true_eq_false, not_false_eq_true, false_and, and_false, forall_const, true_implies, false_implies, implies_true, reduceCtorEq, Int.reduceEq, Int.reduceNe, Int.reduceLT, Int.reduceLE, Int.reduceNeg, Nat.reduceEqDiff, if_true, if_false, reduceIte, Int.reduceMul, Int.reduceAdd, Int.reduceSub]
      refine t_isWithin (fun m0 m1 => ?_) (fun c => ?_)
      · simp only [zrI, zrL, zrR, ne_eq, true_and, and_true, true_or, or_true, not_true_eq_false, not_false_eq_true, false_and, and_false, forall_const, true_implies, false_implies, implies_true, reduceCtorEq, Int.reduceEq, Int.reduceNe, Int.reduceLT, Int.reduceLE, Int.reduceNeg, Nat.reduceEqDiff, if_true, if_false, reduceIte, Int.reduceMul, Int.reduceAdd, Int.reduceSub]
        refine ⟨by omega, t_isWithin (fun r0 r1 => ?_) (fun c => ?_)⟩
        · have q1 := q1 k0 k1 n0 n1 m0 m1 r0 r1
          unfold hpS at q1
          simp only [hS, zrI, zrL, zrR, Shp_wI, Shp_wJ, zR_wI, zR_wJ, zJ_wI, zI_wJ, zobj_wI, zobj_wJ, zarr_wI, zarr_wJ, zS_wI, zS_wJ, o_2, a_3, a_4, a_5, o_10, a_11, a_12, o_137, o_138, a_139, o_140, a_141, o_142, a_143, o_146, a_147, a_148, a_149, o_152, a_153, o_154, a_157, o_158, a_159, r_2_0, r_2_1, r_2_2, r_2_3, r_2_4, r_2_5, r_2_6, r_2_7, r_2_8, r_2_9, r_2_10, r_10_0, r_10_1, r_137_0, r_137_1, r_137_2, r_138_0, r_140_0, r_142_0, r_146_0, r_146_1, r_146_2, r_146_3, r_152_0, r_154_0, r_154_1, r_158_0, zrI, zrL, zrR, ne_eq, true_and, and_true, true_or, or_true, not_true_eq_false, not_false_eq_true, false_and, and_false, forall_const, true_implies, false_implies, implies_true, reduceCtorEq, Int.reduceEq, Int.reduceNe, Int.reduceLT, Int.reduceLE, Int.reduceNeg, Nat.reduceEqDiff, if_true, if_false, reduceIte, Int.reduceMul, Int.reduceAdd, Int.reduceSub]
          refine ⟨fun hn => ⟨fun hk => ?_, fun hk => ?_⟩, fun hn => ⟨fun hr => ?_, fun hr => ?_⟩⟩
          · rw [if_neg hn, if_neg hk] at q1
            exact t_waysByCrank hS co.2.2.2 (by omega) n1 m0 m1 (fun τ w1 w2 => q1 τ (up τ w1 w2).1 (up τ w1 w2).2)
          · rw [if_neg hn, if_pos hk] at q1
            exact t_waysByRank hS co.2.2.2 (by omega) n1 m0 m1 (fun τ w1 w2 => q1 τ (up τ w1 w2).1 (up τ w1 w2).2)
          · rw [if_pos hn, if_neg hr] at q1
            exact q1 σ co Fz.rf
          · rw [if_pos hn, if_pos hr] at q1
            exact q1 σ co Fz.rf
        · simp only [zrI, zrL, zrR, ne_eq, true_and, and_true, true_or, or_true, not_true_eq_false, not_false_eq_true, false_and, and_false, forall_const, true_implies, false_implies, implies_true, reduceCtorEq, Int.reduceEq, Int.reduceNe, Int.reduceLT, Int.reduceLE, Int.reduceNeg, Nat.reduceEqDiff, if_true, if_false, reduceIte, Int.reduceMul, Int.reduceAdd, Int.reduceSub]
          exact q0 (by omega)
      · simp only [zrI, zrL, zrR, ne_eq, true_and, and_true, true_or, or_true, not_true_eq_false, not_false_eq_true, false_and, and_false, forall_const, true_implies, false_implies, implies_true, reduceCtorEq, Int.reduceEq, Int.reduceNe, Int.reduceLT, Int.reduceLE, Int.reduceNeg, Nat.reduceEqDiff, if_true, if_false, reduceIte, Int.reduceMul, Int.reduceAdd, Int.reduceSub]
        exact q0 (by omega)
    · simp only [zrI, zrL, zrR, ne_eq, true_and, and_true, true_or, or_true, not_true_eq_false, not_false_eq_true, false_and, and_false, forall_const, true_implies, false_implies, implies_true, reduceCtorEq, Int.reduceEq, Int.reduceNe, Int.reduceLT, Int.reduceLE, Int.reduceNeg, Nat.reduceEqDiff, if_true, if_false, reduceIte, Int.reduceMul, Int.reduceAdd, Int.reduceSub]
      exact q0 (by omega)
  · simp only [zrI, zrL, zrR, ne_eq, true_and, and_true, true_or, or_true, not_true_eq_false, not_false_eq_true, false_and, and_false, forall_const, true_implies, false_implies, implies_true, reduceCtorEq, Int.reduceEq, Int.reduceNe, Int.reduceLT, Int.reduceLE, Int.reduceNeg, Nat.reduceEqDiff, if_true, if_false, reduceIte, Int.reduceMul, Int.reduceAdd, Int.reduceSub]
    exact q0 (by omega)
