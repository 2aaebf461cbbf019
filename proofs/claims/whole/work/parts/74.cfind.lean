/-! ranks, of the class: find -/
theorem lt_63 {r x : Nat} (hr : r < 9223372036854775808) (hx : x < 9223372036854775808) : zlcmp (Int64.ofNat r) (Int64.ofNat x) < 0 ↔ r < x := by
  rw [zlcmp_lt, Int64.toInt_ofNat_of_lt hr, Int64.toInt_ofNat_of_lt hx]
  omega
theorem tlL_step {w : LW} {f i b o n r : Nat} (hn : n ≠ 0) : tlL w (f + 1) i b o n r = ((pick (WN w i b o n) (topN i b n) r).1 : Int) :: tlL w f (i + 1) (pick (WN w i b o n) (topN i b n) r).1 (hadN i b o (pick (WN w i b o n) (topN i b n) r).1 + 1) (n - (pick (WN w i b o n) (topN i b n) r).1) (pick (WN w i b o n) (topN i b n) r).2 := by
  show (if n = 0 then [] else _) = _
  rw [if_neg hn]
theorem tlL_done {w : LW} {f i b o r : Nat} : tlL w f i b o 0 r = [] := by
  cases f with
  | zero => rfl
  | succ f => show (if 0 = 0 then [] else _) = []; rw [if_pos rfl]
/-- a part that can come keeps the walk's facts -/
theorem WN_law {w : LW} (ok : lawOK w) {i b o n v : Nat} (h : 0 < WN w i b o n v) : (w 0 ≤ 1 → alB w v = true) ∧ (w 0 = 3 → (v : Int) ≤ w 2) ∧ v ≤ n := by
  unfold WN at h
  have hk0 : 0 ≤ w 0 := by unfold lawOK canB at ok; omega
  split at h
  · omega
  · rename_i hvn
    refine ⟨fun h1 => ?_, fun h3 => ?_, by omega⟩
    · rw [if_neg (by omega), if_neg (by omega)] at h
      split at h
      · assumption
      · omega
    · rw [if_neg (by omega), if_pos h3] at h
      split at h
      · omega
      · omega
theorem t_find {Q : ZQ} {σ : ZM} {L : Int → LW} {l : Int} {N r : Nat} (hS : Shp σ) (co : CoI σ L) (l0 : 0 ≤ l) (l1 : l ≤ 7) (hw : L l 0 ≤ 3) (hcov : (N : Int) ≤ covN (L l)) (hr : r < 9223372036854775808) (hrN : N = 0 ∨ r < sW (L l) 0 0 0 N N) (q : ∀ σ', CoI σ' L → Lz σ' 133 (tlL (L l) 400 0 0 0 N r) → Fz (fun a j => cof a j ∨ a = 133 ∨ a = 134) σ σ' → Q zu σ') : WP m_Counter_find 0 [zr 137, zr (176 + 2 * l.toNat), zi (N : Int), zl (Int64.ofNat r), zu, zr 133, zu, zu, zu, zu, zu, zu] [] σ (0, 0) Q := by
  have ok := (co.1 l l0 l1).1
  have N4 : N ≤ 400 := by unfold covN at hcov; split at hcov <;> omega
  have main : ∀ (f : Nat) (i b o n r : Nat) (acc : List Int) (τ : ZM) (u1 u2 u3 u9 u10 u11 : PV), i + f = 400 → acc.length = i → acc.sum + (n : Int) = (N : Int) → 0 ≤ acc.sum → r < 9223372036854775808 → (n = 0 ∨ r < sW (L l) i b o n (topN i b n)) → CoI τ L → CtI τ L l (N : Int) i b o n → wkI (L l) (N : Int) i b o n → Lz τ 133 acc → Fz (fun a j => cof a j ∨ a = 133 ∨ a = 134) σ τ → (∀ σ', CoI σ' L → Lz σ' 133 (acc ++ tlL (L l) f i b o n r) → Fz (fun a j => cof a j ∨ a = 133 ∨ a = 134) σ σ' → Q zu σ') → WP m_Counter_find 17 [zr 137, u1, u2, u3, zu, zr 133, zl (Int64.ofNat r), zu, zi (i : Int), u9, u10, u11] [] τ (0, 0) Q := by
    intro f
    induction f with
    | zero =>
      intro i b o n r acc τ u1 u2 u3 u9 u10 u11 hi hal hs hs0 hr hrn cT ct k lz fz q
      have := q τ cT (by show Lz τ 133 (acc ++ []); rw [List.append_nil]; exact lz) fz
      refine r_Counter_find_17 ⟨fun _ => this, fun c => by omega⟩
    | succ f ih =>
      intro i b o n r acc τ u1 u2 u3 u9 u10 u11 hi hal hs hs0 hr hrn cT ct k lz fz q
      have hT := fz.shp hS
      obtain ⟨k1, k2, k3, k4, k5, k6, k7, k8, k9⟩ := id k
      refine r_Counter_find_17 ?_
      simp only [hT, ct.2.1, zrI, zrL, zrR, Shp_wI, Shp_wJ, zR_wI, zR_wJ, zJ_wI, zI_wJ, zobj_wI, zobj_wJ, zarr_wI, zarr_wJ, zS_wI, zS_wJ, o_2, a_3, a_4, a_5, o_10, a_11, a_12, o_137, o_138, a_139, o_140, a_141, o_142, a_143, o_146, a_147, a_148, a_149, o_152, a_153, o_154, a_157, o_158, a_159, r_2_0, r_2_1, r_2_2, r_2_3, r_2_4, r_2_5, r_2_6, r_2_7, r_2_8, r_2_9, r_2_10, r_10_0, r_10_1, r_137_0, r_137_1, r_137_2, r_138_0, r_140_0, r_142_0, r_146_0, r_146_1, r_146_2, r_146_3, r_152_0, r_154_0, r_154_1, r_158_0, zrI, zrL, zrR, ne_eq, true_and, and_true, true_or, or_true, not_true_eq_false, not_false_eq_true, false_and, and_false, forall_const, true_implies, false_implies, implies_true, reduceCtorEq, Int.reduceEq, Int.reduceNe, Int.reduceLT, Int.reduceLE, Int.reduceNeg, Nat.reduceEqDiff, if_true, if_false, reduceIte, Int.reduceMul, Int.reduceAdd, Int.reduceSub]
      refine ⟨fun c => by omega, fun _ => ⟨fun c => ?_, fun c => ?_⟩⟩
      · have := q τ cT (by rw [show n = 0 by omega, tlL_done, List.append_nil]; exact lz) fz
        exact this
      · have hn0 : n ≠ 0 := by omega
        have hrs : r < sW (L l) i b o n (topN i b n) := by rcases hrn with e | e; omega; exact e
        have gt := gr_top (w := L l) (i := i) (b := b) (n := n) ok
        have ht4 : topN i b n ≤ n := by unfold topN; split <;> omega
        have hz : ∀ x, (grN (L l) i b n).toNat < x → x ≤ topN i b n → WN (L l) i b o n x = 0 := fun x a c => gr_zero (by omega) c
        have hgs : r < sW (L l) i b o n (grN (L l) i b n).toNat := by
          have : sW (L l) i b o n (topN i b n) = sW (L l) i b o n (grN (L l) i b n).toNat := sN_tail _ (by omega) (fun x a c => hz (x + 1) (by omega) (by omega))
          omega
        have hg1 : 1 ≤ (grN (L l) i b n).toNat := by
          rcases Nat.eq_zero_or_pos (grN (L l) i b n).toNat with z | z
          · rw [z] at hgs
            have : sW (L l) i b o n 0 = 0 := rfl
            omega
          · exact z
        have hpk : pick (WN (L l) i b o n) (topN i b n) r = pick (WN (L l) i b o n) (grN (L l) i b n).toNat r := pick_low _ _ (by omega) hz
        have take : ∀ (x r' : Nat) (u : Int64), 1 ≤ x → (x : Int) ≤ grN (L l) i b n → r' < WN (L l) i b o n x → pick (WN (L l) i b o n) (grN (L l) i b n).toNat r = (x, r') → r' < 9223372036854775808 → WP m_Sum_add 0 [zr 133, zi (x : Int)] [] τ (0, 0) (fun r1 σ2 => (zobj σ2 137 2 ∧ WP m_Counter_step 0 [zr 137, zi (x : Int)] [] σ2 (0, 0) (fun r4 σ5 => ((-2147483648 ≤ ((i : Int) + 1 : Int) ∧ ((i : Int) + 1 : Int) ≤ 2147483647) ∧ WP m_Counter_find 17 [zr 137, u1, u2, u3, zu, zr 133, zl (Int64.ofNat r'), zu, zi ((i : Int) + 1), zi (x : Int), zl u, zu] [] σ5 (0, 0) Q)))) := by
          intro x r' u x1 xg hr' hpx hr63
          obtain ⟨w1, w2, w3⟩ := WN_law ok (show 0 < WN (L l) i b o n x by omega)
          refine t_Sum_add (hT.sumO isS_133) lz (by omega) (by omega) (fun υ v1 v2 => ?_)
          have hU := v2.shp hT
          have fz2 : Fz (fun a j => a = 133 ∨ a = 134) τ υ := v2.z (fun a j w => w)
          refine ⟨fz2.obj (hT.obj (by decide) (by decide) rfl), t_step hU (fz2.ctI (fun a j w => by omega) ct) k x1 w3 (fun ω z1 z2 => ⟨by omega, ?_⟩)⟩
          have hes : (acc ++ [(x : Int)]).sum = acc.sum + x := by simp
          have := ih (i + 1) x (hadN i b o x + 1) (n - x) r' (acc ++ [(x : Int)]) ω u1 u2 u3 (zi (x : Int)) (zl u) zu (by omega) (by simp; omega) (by omega) (by omega) hr63 ?_ (z2.coI (fun a j w => by omega) (fz2.coI (fun a j w => by omega) cT)) z1 (wk_next k x1 w3 w1 w2) (z2.lz (fun j => by omega) (fun j => by omega) v1) ((fz.tr (fz2.mono (fun a j w => Or.inr w))).tr (z2.mono (fun a j w => by omega))) (fun σ' y1 y2 y3 => q σ' y1 ?_ y3)
          · rw [Int.natCast_succ] at this
            exact this
          · by_cases c0 : n - x = 0
            · exact Or.inl c0
            · right
              have := WN_next ok hw (i := i) (b := b) (o := o) (n := n) (v := x) x1 (by omega)
              have e : topN (i + 1) x (n - x) = min x (n - x) := by unfold topN; rw [if_neg (by omega)]
              rw [e]
              by_cases c1 : x ≤ n - x
              · rw [Nat.min_eq_left c1]; omega
              · rw [Nat.min_eq_right (by omega), ← sW_big (t := x) (by omega)]; omega
          · rw [tlL_step hn0, hpk, hpx]
            rw [List.append_assoc] at y2
            exact y2
        refine t_greatest hT cT.1 l0 l1 ct k ?_
        simp only [hT, zrI, zrL, zrR, Shp_wI, Shp_wJ, zR_wI, zR_wJ, zJ_wI, zI_wJ, zobj_wI, zobj_wJ, zarr_wI, zarr_wJ, zS_wI, zS_wJ, o_2, a_3, a_4, a_5, o_10, a_11, a_12, o_137, o_138, a_139, o_140, a_141, o_142, a_143, o_146, a_147, a_148, a_149, o_152, a_153, o_154, a_157, o_158, a_159, r_2_0, r_2_1, r_2_2, r_2_3, r_2_4, r_2_5, r_2_6, r_2_7, r_2_8, r_2_9, r_2_10, r_10_0, r_10_1, r_137_0, r_137_1, r_137_2, r_138_0, r_140_0, r_142_0, r_146_0, r_146_1, r_146_2, r_146_3, r_152_0, r_154_0, r_154_1, r_158_0, zrI, zrL, zrR, ne_eq, true_and, and_true, true_or, or_true, not_true_eq_false, not_false_eq_true, false_and, and_false, forall_const, true_implies, false_implies, implies_true, reduceCtorEq, Int.reduceEq, Int.reduceNe, Int.reduceLT, Int.reduceLE, Int.reduceNeg, Nat.reduceEqDiff, if_true, if_false, reduceIte, Int.reduceMul, Int.reduceAdd, Int.reduceSub]
        have e1 : grN (L l) i b n = ((grN (L l) i b n).toNat : Int) := by omega
        have loop : ∀ (x r' : Nat), (x + 1 : Nat) ≤ (grN (L l) i b n).toNat → r' < sW (L l) i b o n (x + 1) → r' < 9223372036854775808 → pick (WN (L l) i b o n) (grN (L l) i b n).toNat r = pick (WN (L l) i b o n) (x + 1) r' → WP m_Counter_find 46 [zr 137, u1, u2, u3, zu, zr 133, zl (Int64.ofNat r'), zu, zi (i : Int), zi ((x + 1 : Nat) : Int), zl (Int64.ofNat (WN (L l) i b o n (x + 1))), zu] [] τ (0, 0) Q := by
          intro x
          induction x with
          | zero =>
            intro r' hx hr' hr63 hpk'
            have hW1 : r' < WN (L l) i b o n 1 := by
              have h1 : sW (L l) i b o n 1 = 0 + WN (L l) i b o n 1 := rfl
              have h2 : r' < sW (L l) i b o n 1 := hr'
              rw [h1, Nat.zero_add] at h2
              exact h2
            refine r_Counter_find_46 ?_
            simp only [hT, (hT.sumO isS_133).1, zrI, zrL, zrR, Shp_wI, Shp_wJ, zR_wI, zR_wJ, zJ_wI, zI_wJ, zobj_wI, zobj_wJ, zarr_wI, zarr_wJ, zS_wI, zS_wJ, o_2, a_3, a_4, a_5, o_10, a_11, a_12, o_137, o_138, a_139, o_140, a_141, o_142, a_143, o_146, a_147, a_148, a_149, o_152, a_153, o_154, a_157, o_158, a_159, r_2_0, r_2_1, r_2_2, r_2_3, r_2_4, r_2_5, r_2_6, r_2_7, r_2_8, r_2_9, r_2_10, r_10_0, r_10_1, r_137_0, r_137_1, r_137_2, r_138_0, r_140_0, r_142_0, r_146_0, r_146_1, r_146_2, r_146_3, r_152_0, r_154_0, r_154_1, r_158_0, zrI, zrL, zrR, ne_eq, true_and, and_true, true_or, or_true, not_true_eq_false, not_false_eq_true, false_and, and_false, forall_const, true_implies, false_implies, implies_true, reduceCtorEq, Int.reduceEq, Int.reduceNe, Int.reduceLT, Int.reduceLE, Int.reduceNeg, Nat.reduceEqDiff, if_true, if_false, reduceIte, Int.reduceMul, Int.reduceAdd, Int.reduceSub]
            refine ⟨fun _ => take 1 r' _ (by omega) (by omega) hW1 ?_ hr63, fun c => by omega⟩
            rw [hpk']
            show (if r' < WN (L l) i b o n (0 + 1) then (0 + 1, r') else _) = _
            rw [if_pos hW1]
          | succ x ihx =>
            intro r' hx hr' hr63 hpk'
            have hsm := WN_small ok hw (i := i) (b := b) (o := o) (n := n) (v := x + 1 + 1) (by omega) (by omega)
            refine r_Counter_find_46 ?_
            simp only [hT, (hT.sumO isS_133).1, zrI, zrL, zrR, Shp_wI, Shp_wJ, zR_wI, zR_wJ, zJ_wI, zI_wJ, zobj_wI, zobj_wJ, zarr_wI, zarr_wJ, zS_wI, zS_wJ, o_2, a_3, a_4, a_5, o_10, a_11, a_12, o_137, o_138, a_139, o_140, a_141, o_142, a_143, o_146, a_147, a_148, a_149, o_152, a_153, o_154, a_157, o_158, a_159, r_2_0, r_2_1, r_2_2, r_2_3, r_2_4, r_2_5, r_2_6, r_2_7, r_2_8, r_2_9, r_2_10, r_10_0, r_10_1, r_137_0, r_137_1, r_137_2, r_138_0, r_140_0, r_142_0, r_146_0, r_146_1, r_146_2, r_146_3, r_152_0, r_154_0, r_154_1, r_158_0, zrI, zrL, zrR, ne_eq, true_and, and_true, true_or, or_true, not_true_eq_false, not_false_eq_true, false_and, and_false, forall_const, true_implies, false_implies, implies_true, reduceCtorEq, Int.reduceEq, Int.reduceNe, Int.reduceLT, Int.reduceLE, Int.reduceNeg, Nat.reduceEqDiff, if_true, if_false, reduceIte, Int.reduceMul, Int.reduceAdd, Int.reduceSub]
            refine ⟨fun c => by omega, fun _ => ⟨fun c => ?_, fun c => ?_⟩⟩
            · rw [lt_63 hr63 hsm] at c
              refine take (x + 1 + 1) r' _ (by omega) (by omega) c ?_ hr63
              rw [hpk']
              show (if r' < WN (L l) i b o n (x + 1 + 1) then (x + 1 + 1, r') else _) = _
              rw [if_pos c]
            · have c2 : ¬ r' < WN (L l) i b o n (x + 1 + 1) := fun w => by have := (lt_63 hr63 hsm).mpr w; omega
              have es : sW (L l) i b o n (x + 1 + 1) = sW (L l) i b o n (x + 1) + WN (L l) i b o n (x + 1 + 1) := rfl
              refine ⟨by omega, ?_⟩
              rw [show ((x + 1 + 1 : Nat) : Int) + -1 = ((x + 1 : Nat) : Int) by omega]
              refine t_waysOn hT cT.1 l0 l1 hw ct k (by omega) (by omega) ?_
              simp only [zrI, zrL, zrR, ne_eq, true_and, and_true, true_or, or_true, not_true_eq_false, not_false_eq_true, false_and, and_false, forall_const, true_implies, false_implies, implies_true, reduceCtorEq, Int.reduceEq, Int.reduceNe, Int.reduceLT, Int.reduceLE, Int.reduceNeg, Nat.reduceEqDiff, if_true, if_false, reduceIte, Int.reduceMul, Int.reduceAdd, Int.reduceSub]
              rw [← Int64.ofNat_sub _ _ (by omega)]
              refine ihx (r' - WN (L l) i b o n (x + 1 + 1)) (by omega) (by omega) (by omega) ?_
              rw [hpk']
              show (if r' < WN (L l) i b o n (x + 1 + 1) then (x + 1 + 1, r') else _) = _
              rw [if_neg c2]
        obtain ⟨y, hy⟩ : ∃ y, (grN (L l) i b n).toNat = y + 1 := ⟨(grN (L l) i b n).toNat - 1, by omega⟩
        rw [e1, hy]
        refine t_waysOn hT cT.1 l0 l1 hw ct k (by omega) (by omega) ?_
        simp only [zrI, zrL, zrR, ne_eq, true_and, and_true, true_or, or_true, not_true_eq_false, not_false_eq_true, false_and, and_false, forall_const, true_implies, false_implies, implies_true, reduceCtorEq, Int.reduceEq, Int.reduceNe, Int.reduceLT, Int.reduceLE, Int.reduceNeg, Nat.reduceEqDiff, if_true, if_false, reduceIte, Int.reduceMul, Int.reduceAdd, Int.reduceSub]
        rw [hy] at hgs
        exact loop y r (by omega) hgs hr (by rw [hy])
  refine r_Counter_find_0 ?_
  simp only [hS, zrI, zrL, zrR, Shp_wI, Shp_wJ, zR_wI, zR_wJ, zJ_wI, zI_wJ, zobj_wI, zobj_wJ, zarr_wI, zarr_wJ, zS_wI, zS_wJ, o_2, a_3, a_4, a_5, o_10, a_11, a_12, o_137, o_138, a_139, o_140, a_141, o_142, a_143, o_146, a_147, a_148, a_149, o_152, a_153, o_154, a_157, o_158, a_159, r_2_0, r_2_1, r_2_2, r_2_3, r_2_4, r_2_5, r_2_6, r_2_7, r_2_8, r_2_9, r_2_10, r_10_0, r_10_1, r_137_0, r_137_1, r_137_2, r_138_0, r_140_0, r_142_0, r_146_0, r_146_1, r_146_2, r_146_3, r_152_0, r_154_0, r_154_1, r_158_0, zrI, zrL, zrR, ne_eq, true_and, and_true, true_or, or_true, not_true_eq_false, not_false_eq_true, false_and, and_false, forall_const, true_implies, false_implies, implies_true, reduceCtorEq, Int.reduceEq, Int.reduceNe, Int.reduceLT, Int.reduceLE, Int.reduceNeg, Nat.reduceEqDiff, if_true, if_false, reduceIte, Int.reduceMul, Int.reduceAdd, Int.reduceSub]
  refine t_start hS co l0 l1 hw hcov (fun τ w1 w2 w3 => ?_)
  have hT := w3.shp hS
  simp only [hT, (hT.sumO isS_133).1, zrI, zrL, zrR, Shp_wI, Shp_wJ, zR_wI, zR_wJ, zJ_wI, zI_wJ, zobj_wI, zobj_wJ, zarr_wI, zarr_wJ, zS_wI, zS_wJ, o_2, a_3, a_4, a_5, o_10, a_11, a_12, o_137, o_138, a_139, o_140, a_141, o_142, a_143, o_146, a_147, a_148, a_149, o_152, a_153, o_154, a_157, o_158, a_159, r_2_0, r_2_1, r_2_2, r_2_3, r_2_4, r_2_5, r_2_6, r_2_7, r_2_8, r_2_9, r_2_10, r_10_0, r_10_1, r_137_0, r_137_1, r_137_2, r_138_0, r_140_0, r_142_0, r_146_0, r_146_1, r_146_2, r_146_3, r_152_0, r_154_0, r_154_1, r_158_0, zrI, zrL, zrR, ne_eq, true_and, and_true, true_or, or_true, not_true_eq_false, not_false_eq_true, false_and, and_false, forall_const, true_implies, false_implies, implies_true, reduceCtorEq, Int.reduceEq, Int.reduceNe, Int.reduceLT, Int.reduceLE, Int.reduceNeg, Nat.reduceEqDiff, if_true, if_false, reduceIte, Int.reduceMul, Int.reduceAdd, Int.reduceSub]
  refine t_Sum_empty (hT.sumO isS_133) (fun υ v1 v2 => ?_)
  have fz2 : Fz (fun a j => a = 133 ∨ a = 134) τ υ := v2.z (fun a j w => w)
  refine main 400 0 0 0 N r [] υ _ _ _ _ _ _ (by omega) rfl (by simp) (by simp) hr ?_ (fz2.coI (fun a j w => by omega) w1) (fz2.ctI (fun a j w => by omega) w2) ⟨fun _ => rfl, fun h => by omega, fun h => by omega, fun h => by omega, by omega, by omega, by omega, by omega, hcov⟩ v1 ((w3.mono (fun a j w => Or.inl w)).tr (fz2.mono (fun a j w => Or.inr w))) (fun σ' z1 z2 z3 => q σ' z1 z2 z3)
  have e : topN 0 0 N = N := by unfold topN; rw [if_pos rfl]
  rw [e]
  exact hrN
