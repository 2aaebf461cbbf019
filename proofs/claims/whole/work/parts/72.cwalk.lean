/-! ranks, of the class -/
theorem WN_zero {w : LW} {b b' o o' n v : Nat} : WN w 0 b o n v = WN w 0 b' o' n v := by
  unfold WN hadN
  rw [if_neg (show ¬ (0 < 0 ∧ b = v) by omega), if_neg (show ¬ (0 < 0 ∧ b' = v) by omega)]
  rw [if_neg (show ¬ (0 < 0 ∧ (b : Int) - (v : Int) < gapN w (b : Int)) by omega), if_neg (show ¬ (0 < 0 ∧ (b' : Int) - (v : Int) < gapN w (b' : Int)) by omega)]
/-- the SUM of a rank: i parts are there, b the latest of them, o like it, n left -/
def topN (i b n : Nat) : Nat := if i = 0 then n else min b n
def tlL (w : LW) : Nat → Nat → Nat → Nat → Nat → Nat → List Int
  | 0, _, _, _, _, _ => []
  | f + 1, i, b, o, n, r => if n = 0 then [] else ((pick (WN w i b o n) (topN i b n) r).1 : Int) :: tlL w f (i + 1) (pick (WN w i b o n) (topN i b n) r).1 (hadN i b o (pick (WN w i b o n) (topN i b n) r).1 + 1) (n - (pick (WN w i b o n) (topN i b n) r).1) (pick (WN w i b o n) (topN i b n) r).2
def CtI (σ : ZM) (L : Int → LW) (l : Int) (N : Int) (i b o n : Nat) : Prop := zR σ 137 3 = 176 + 2 * l.toNat ∧ zI σ 137 4 = (n : Int) ∧ zI σ 137 5 = (i : Int) ∧ zI σ 137 6 = (b : Int) ∧ zI σ 137 7 = (o : Int) ∧ (L l 0 ≠ 3 → ∃ f, N ≤ f ∧ TabV σ (L l) f) ∧ (L l 0 = 3 → ∃ f, N ≤ f ∧ BoxV σ f)
def wkI (w : LW) (N : Int) (i b o n : Nat) : Prop := (i = 0 → b = 0) ∧ (0 < i → 1 ≤ b) ∧ (0 < i → w 0 ≤ 1 → alB w b = true) ∧ (0 < i → w 0 = 3 → (b : Int) ≤ w 2) ∧ o + n ≤ 400 ∧ b ≤ 400 ∧ i + n ≤ 400 ∧ (n : Int) ≤ N ∧ N ≤ covN w
theorem Fz.ctI {P : Nat → Int → Prop} {σ σ' : ZM} (f : Fz P σ σ') (hP : ∀ a j, a = 137 ∨ a = 139 ∨ a = 141 → ¬ P a j) {L : Int → LW} {l N : Int} {i b o n : Nat} (c : CtI σ L l N i b o n) : CtI σ' L l N i b o n := by
  obtain ⟨c1, c2, c3, c4, c5, c6, c7⟩ := c
  refine ⟨by rw [f.r (hP _ _ (by omega))]; exact c1, by rw [f.i (hP _ _ (by omega))]; exact c2, by rw [f.i (hP _ _ (by omega))]; exact c3, by rw [f.i (hP _ _ (by omega))]; exact c4, by rw [f.i (hP _ _ (by omega))]; exact c5, fun h => ?_, fun h => ?_⟩
  · obtain ⟨x, x1, x2⟩ := c6 h
    exact ⟨x, x1, x2.step (fun j => f.j (hP _ _ (by omega)))⟩
  · obtain ⟨x, x1, x2⟩ := c7 h
    exact ⟨x, x1, x2.same (fun j => f.i (hP _ _ (by omega)))⟩
theorem t_start {Q : ZQ} {σ : ZM} {L : Int → LW} {l : Int} {n : Nat} (hS : Shp σ) (co : CoI σ L) (l0 : 0 ≤ l) (l1 : l ≤ 7) (hw : L l 0 ≤ 3) (hn : (n : Int) ≤ covN (L l)) (q : ∀ σ', CoI σ' L → CtI σ' L l (n : Int) 0 0 0 n → Fz cof σ σ' → Q zu σ') : WP m_Counter_start 0 [zr 137, zr (176 + 2 * l.toNat), zi (n : Int)] [] σ (0, 0) Q := by
  have n4 : (n : Int) ≤ 400 := by unfold covN at hn; split at hn <;> omega
  have ok := (co.1 l l0 l1).1
  have hk0 : 0 ≤ L l 0 := by unfold lawOK canB at ok; omega
  generalize hτ : wI (wI (wI (wI (wR σ 137 3 (176 + 2 * l.toNat)) 137 4 (n : Int)) 137 5 0) 137 6 0) 137 7 0 = τ
  have f : Fz (fun a j => a = 137 ∧ 3 ≤ j) σ τ := by
    rw [← hτ]
    exact ((((Fz.wR ⟨rfl, by omega⟩ (by unfold rfx; omega)).tr (Fz.wI ⟨rfl, by omega⟩)).tr (Fz.wI ⟨rfl, by omega⟩)).tr (Fz.wI ⟨rfl, by omega⟩)).tr (Fz.wI ⟨rfl, by omega⟩)
  have hT := f.shp hS
  have cT := f.coI (fun a j w => by omega) co
  have er : zR τ 137 3 = 176 + 2 * l.toNat := by rw [← hτ]; show zR (wR σ 137 3 _) 137 3 = _; rw [zR_wR, if_pos ⟨rfl, rfl⟩]
  have e4 : zI τ 137 4 = (n : Int) := by rw [← hτ]; simp only [zI_wI, zrI, zrL, zrR, ne_eq, true_and, and_true, true_or, or_true, not_true_eq_false, not_false_eq_true, false_and, and_false, forall_const, true_implies, false_implies, implies_true, reduceCtorEq, Int.reduceEq, Int.reduceNe, Int.reduceLT, Int.reduceLE, Int.reduceNeg, Nat.reduceEqDiff, if_true, if_false, reduceIte, Int.reduceMul, Int.reduceAdd, Int.reduceSub]
  have e5 : zI τ 137 5 = 0 := by rw [← hτ]; simp only [zI_wI, zrI, zrL, zrR, ne_eq, true_and, and_true, true_or, or_true, not_true_eq_false, not_false_eq_true, false_and, and_false, forall_const, true_implies, false_implies, implies_true, reduceCtorEq, Int.reduceEq, Int.reduceNe, Int.reduceLT, Int.reduceLE, Int.reduceNeg, Nat.reduceEqDiff, if_true, if_false, reduceIte, Int.reduceMul, Int.reduceAdd, Int.reduceSub]
  have e6 : zI τ 137 6 = 0 := by rw [← hτ]; simp only [zI_wI, zrI, zrL, zrR, ne_eq, true_and, and_true, true_or, or_true, not_true_eq_false, not_false_eq_true, false_and, and_false, forall_const, true_implies, false_implies, implies_true, reduceCtorEq, Int.reduceEq, Int.reduceNe, Int.reduceLT, Int.reduceLE, Int.reduceNeg, Nat.reduceEqDiff, if_true, if_false, reduceIte, Int.reduceMul, Int.reduceAdd, Int.reduceSub]
  have e7 : zI τ 137 7 = 0 := by rw [← hτ]; simp only [zI_wI, zrI, zrL, zrR, ne_eq, true_and, and_true, true_or, or_true, not_true_eq_false, not_false_eq_true, false_and, and_false, forall_const, true_implies, false_implies, implies_true, reduceCtorEq, Int.reduceEq, Int.reduceNe, Int.reduceLT, Int.reduceLE, Int.reduceNeg, Nat.reduceEqDiff, if_true, if_false, reduceIte, Int.reduceMul, Int.reduceAdd, Int.reduceSub]
  have o137 : ∀ υ, Fz (fun a j => a = 137 ∧ 3 ≤ j) σ υ → zobj υ 137 2 := fun υ g => g.obj (hS.obj (by decide) (by decide) rfl)
  have hl := isL_law l0 l1
  refine r_Counter_start_0 ?_
  have g1 : Fz (fun a j => a = 137 ∧ 3 ≤ j) σ (wR σ 137 3 (176 + 2 * l.toNat)) := Fz.wR ⟨rfl, by omega⟩ (by unfold rfx; omega)
  have oo := o137 _ g1
  simp only [zobj_wI, oo, hτ, zrI, zrL, zrR, ne_eq, true_and, and_true, true_or, or_true, not_true_eq_false, not_false_eq_true, false_and, and_false, forall_const, true_implies, false_implies, implies_true, reduceCtorEq, Int.reduceEq, Int.reduceNe, Int.reduceLT, Int.reduceLE, Int.reduceNeg, Nat.reduceEqDiff, if_true, if_false, reduceIte, Int.reduceMul, Int.reduceAdd, Int.reduceSub]
  rw [er]
  refine ⟨o137 σ Fz.rf, o137 τ f, (hT.lawO hl).1, fun e => ⟨o137 τ f, o137 τ f, ?_, ?_⟩, fun e => ⟨o137 τ f, ?_, ?_⟩⟩
  · rw [r_137_0 hT]; exact hT.obj (by decide) (by decide) rfl
  · rw [(cT.1 l l0 l1).2.1] at e
    rw [r_137_0 hT]
    refine t_Table_prepare hT cT.1 cT.2.2.1 l0 l1 (by omega) (by omega) n4 (fun υ w1 w2 w3 => q υ ⟨w3.lawsP (fun a j _ _ _ => by omega) cT.1, w3.lawsK (fun a j _ _ _ => by omega) cT.2.1, w1, w3.boxI (fun j => by omega) (fun j => by omega) cT.2.2.2⟩ ⟨?_, ?_, ?_, ?_, ?_, fun _ => w2, fun c => absurd c e⟩ ((f.mono (fun a j w => by omega)).tr (w3.mono (fun a j w => by omega))))
    · rw [w3.r (by omega)]; exact er
    · rw [w3.i (by omega)]; exact e4
    · rw [w3.i (by omega)]; exact e5
    · rw [w3.i (by omega)]; exact e6
    · rw [w3.i (by omega)]; exact e7
  · rw [r_137_1 hT]; exact hT.obj (by decide) (by decide) rfl
  · rw [(cT.1 l l0 l1).2.1] at e
    rw [r_137_1 hT]
    have n6 : (n : Int) ≤ 60 := by unfold covN at hn; rw [if_pos e] at hn; exact hn
    refine t_Box_prepare hT cT.2.2.2 (by omega) n6 (fun υ w1 w2 w3 => q υ ⟨w3.lawsP (fun a j _ _ _ => by omega) cT.1, w3.lawsK (fun a j _ _ _ => by omega) cT.2.1, w3.tabI (fun j => by omega) (fun j => by omega) cT.2.2.1, w1⟩ ⟨?_, ?_, ?_, ?_, ?_, fun c => absurd e c, fun _ => w2⟩ ((f.mono (fun a j w => by omega)).tr (w3.mono (fun a j w => by omega))))
    · rw [w3.r (by omega)]; exact er
    · rw [w3.i (by omega)]; exact e4
    · rw [w3.i (by omega)]; exact e5
    · rw [w3.i (by omega)]; exact e6
    · rw [w3.i (by omega)]; exact e7
abbrev stf (a : Nat) (j : Int) : Prop := a = 137 ∧ 4 ≤ j
theorem t_step {Q : ZQ} {σ : ZM} {L : Int → LW} {l N : Int} {i b o n v : Nat} (hS : Shp σ) (c : CtI σ L l N i b o n) (k : wkI (L l) N i b o n) (hv : 1 ≤ v) (hvn : v ≤ n) (q : ∀ σ', CtI σ' L l N (i + 1) v (hadN i b o v + 1) (n - v) → Fz stf σ σ' → Q zu σ') : WP m_Counter_step 0 [zr 137, zi (v : Int)] [] σ (0, 0) Q := by
  obtain ⟨c1, c2, c3, c4, c5, c6, c7⟩ := c
  obtain ⟨k1, k2, k3, k4, k5, k6, k7, k8, k9⟩ := k
  have fin : ∀ x : Int, x = ((hadN i b o v + 1 : Nat) : Int) → Q zu (wI (wI (wI (wI σ 137 7 x) 137 6 (v : Int)) 137 4 ((n : Int) - (v : Int))) 137 5 ((i : Int) + 1)) := fun x hx => by
    have f : Fz stf σ (wI (wI (wI (wI σ 137 7 x) 137 6 (v : Int)) 137 4 ((n : Int) - (v : Int))) 137 5 ((i : Int) + 1)) := (((Fz.wI ⟨rfl, by omega⟩).tr (Fz.wI ⟨rfl, by omega⟩)).tr (Fz.wI ⟨rfl, by omega⟩)).tr (Fz.wI ⟨rfl, by omega⟩)
    refine q _ ⟨?_, ?_, ?_, ?_, ?_, fun h => ?_, fun h => ?_⟩ f
    · rw [f.r (by omega)]; exact c1
    · simp only [zI_wI, zrI, zrL, zrR, ne_eq, true_and, and_true, true_or, or_true, not_true_eq_false, not_false_eq_true, false_and, and_false, forall_const, true_implies, false_implies, implies_true, reduceCtorEq, Int.reduceEq, Int.reduceNe, Int.reduceLT, Int.reduceLE, Int.reduceNeg, Nat.reduceEqDiff, if_true, if_false, reduceIte, Int.reduceMul, Int.reduceAdd, Int.reduceSub]; omega
    · simp only [zI_wI, zrI, zrL, zrR, ne_eq, true_and, and_true, true_or, or_true, not_true_eq_false, not_false_eq_true, false_and, and_false, forall_const, true_implies, false_implies, implies_true, reduceCtorEq, Int.reduceEq, Int.reduceNe, Int.reduceLT, Int.reduceLE, Int.reduceNeg, Nat.reduceEqDiff, if_true, if_false, reduceIte, Int.reduceMul, Int.reduceAdd, Int.reduceSub]; omega
    · simp only [zI_wI, zrI, zrL, zrR, ne_eq, true_and, and_true, true_or, or_true, not_true_eq_false, not_false_eq_true, false_and, and_false, forall_const, true_implies, false_implies, implies_true, reduceCtorEq, Int.reduceEq, Int.reduceNe, Int.reduceLT, Int.reduceLE, Int.reduceNeg, Nat.reduceEqDiff, if_true, if_false, reduceIte, Int.reduceMul, Int.reduceAdd, Int.reduceSub]
    · simp only [zI_wI, zrI, zrL, zrR, ne_eq, true_and, and_true, true_or, or_true, not_true_eq_false, not_false_eq_true, false_and, and_false, forall_const, true_implies, false_implies, implies_true, reduceCtorEq, Int.reduceEq, Int.reduceNe, Int.reduceLT, Int.reduceLE, Int.reduceNeg, Nat.reduceEqDiff, if_true, if_false, reduceIte, Int.reduceMul, Int.reduceAdd, Int.reduceSub]; exact hx
    · obtain ⟨y, y1, y2⟩ := c6 h
      exact ⟨y, y1, y2.step (fun j => f.j (by omega))⟩
    · obtain ⟨y, y1, y2⟩ := c7 h
      exact ⟨y, y1, y2.same (fun j => f.i (by omega))⟩
  refine r_Counter_step_0 ?_
  simp only [hS, zI_wI, c2, c3, c4, c5, zrI, zrL, zrR, Shp_wI, Shp_wJ, zR_wI, zR_wJ, zJ_wI, zI_wJ, zobj_wI, zobj_wJ, zarr_wI, zarr_wJ, zS_wI, zS_wJ, o_2, a_3, a_4, a_5, o_10, a_11, a_12, o_137, o_138, a_139, o_140, a_141, o_142, a_143, o_146, a_147, a_148, a_149, o_152, a_153, o_154, a_157, o_158, a_159, r_2_0, r_2_1, r_2_2, r_2_3, r_2_4, r_2_5, r_2_6, r_2_7, r_2_8, r_2_9, r_2_10, r_10_0, r_10_1, r_137_0, r_137_1, r_137_2, r_138_0, r_140_0, r_142_0, r_146_0, r_146_1, r_146_2, r_146_3, r_152_0, r_154_0, r_154_1, r_158_0, zrI, zrL, zrR, ne_eq, true_and, and_true, true_or, or_true, not_true_eq_false, not_false_eq_true, false_and, and_false, forall_const, true_implies, false_implies, implies_true, reduceCtorEq, Int.reduceEq, Int.reduceNe, Int.reduceLT, Int.reduceLE, Int.reduceNeg, Nat.reduceEqDiff, if_true, if_false, reduceIte, Int.reduceMul, Int.reduceAdd, Int.reduceSub]
  refine ⟨fun e => ⟨by omega, by omega, fin 1 ?_⟩, fun e => ⟨by omega, by omega, by omega, fin _ ?_⟩⟩
  · unfold hadN; rw [if_neg (by omega)]; rfl
  · unfold hadN
    rw [if_pos ⟨by rcases Nat.eq_zero_or_pos i with z | z; have := k1 z; omega; exact z, by omega⟩]
    omega
/-- no part above this one -/
def grN (w : LW) (i b n : Nat) : Int := if i = 0 then (if w 0 = 3 then min (n : Int) (w 2) else (n : Int)) else min (n : Int) (if w 0 = 2 then (b : Int) - gapN w (b : Int) else (b : Int))
theorem t_greatest {Q : ZQ} {σ : ZM} {L : Int → LW} {l N : Int} {i b o n : Nat} (hS : Shp σ) (hL : LawsP σ L) (l0 : 0 ≤ l) (l1 : l ≤ 7) (c : CtI σ L l N i b o n) (k : wkI (L l) N i b o n) (q : Q (zi (grN (L l) i b n)) σ) : WP m_Counter_greatest 0 [zr 137] [] σ (0, 0) Q := by
  obtain ⟨c1, c2, c3, c4, c5, c6, c7⟩ := c
  obtain ⟨k1, k2, k3, k4, k5, k6, k7, k8, k9⟩ := k
  obtain ⟨ok, p⟩ := hL l l0 l1
  have hl := isL_law l0 l1
  unfold grN at q
  refine r_Counter_greatest_0 ?_
  simp only [hS, c1, c2, c3, c4, (hS.lawO hl).1, p.1, zrI, zrL, zrR, Shp_wI, Shp_wJ, zR_wI, zR_wJ, zJ_wI, zI_wJ, zobj_wI, zobj_wJ, zarr_wI, zarr_wJ, zS_wI, zS_wJ, o_2, a_3, a_4, a_5, o_10, a_11, a_12, o_137, o_138, a_139, o_140, a_141, o_142, a_143, o_146, a_147, a_148, a_149, o_152, a_153, o_154, a_157, o_158, a_159, r_2_0, r_2_1, r_2_2, r_2_3, r_2_4, r_2_5, r_2_6, r_2_7, r_2_8, r_2_9, r_2_10, r_10_0, r_10_1, r_137_0, r_137_1, r_137_2, r_138_0, r_140_0, r_142_0, r_146_0, r_146_1, r_146_2, r_146_3, r_152_0, r_154_0, r_154_1, r_158_0, zrI, zrL, zrR, ne_eq, true_and, and_true, true_or, or_true, not_true_eq_false, not_false_eq_true, false_and, and_false, forall_const, true_implies, false_implies, implies_true, reduceCtorEq, Int.reduceEq, Int.reduceNe, Int.reduceLT, Int.reduceLE, Int.reduceNeg, Nat.reduceEqDiff, if_true, if_false, reduceIte, Int.reduceMul, Int.reduceAdd, Int.reduceSub]
  refine ⟨fun e => ⟨fun e2 => t_min ?_, fun e2 => t_gapBehind (hS.lawO hl).1 p ok e2 (by omega) (by omega) ?_⟩, fun e => ⟨fun e3 => ?_, fun e3 => ?_⟩⟩
  · rw [if_neg (by omega), if_neg e2] at q; exact q
  · have hg := gapN_bd (w := L l) (v := (b : Int)) ok e2
    simp only [zrI, zrL, zrR, ne_eq, true_and, and_true, true_or, or_true, not_true_eq_false, not_false_eq_true, false_and, and_false, forall_const, true_implies, false_implies, implies_true, reduceCtorEq, Int.reduceEq, Int.reduceNe, Int.reduceLT, Int.reduceLE, Int.reduceNeg, Nat.reduceEqDiff, if_true, if_false, reduceIte, Int.reduceMul, Int.reduceAdd, Int.reduceSub]
    refine ⟨by omega, t_min ?_⟩
    rw [if_neg (by omega), if_pos e2] at q; exact q
  · rw [if_pos (by omega), if_neg e3] at q; exact q
  · rw [(p.2.2.2.1 e3).2]
    refine t_min ?_
    rw [if_pos (by omega), if_pos e3] at q; exact q
theorem TB_diff {al : Nat → Bool} {c k n : Nat} : Int64.ofNat (TB al c (k + 1) n) - Int64.ofNat (TB al c k n) = Int64.ofNat (if al (k + 1) then runs (TB al c k) (k + 1) n c else 0) := by
  show Int64.ofNat (TB al c k n + (if al (k + 1) then runs (TB al c k) (k + 1) n c else 0)) - _ = _
  rw [Int64.ofNat_add]
  grind
theorem t_waysLike {Q : ZQ} {σ : ZM} {L : Int → LW} {l N : Int} {i b o n v : Nat} (hS : Shp σ) (hL : LawsP σ L) (l0 : 0 ≤ l) (l1 : l ≤ 7) (c : CtI σ L l N i b o n) (k : wkI (L l) N i b o n) (h1 : L l 0 = 1) (ht : 0 < L l 3) (hv : 1 ≤ v) (hvn : v ≤ n) (q : Q (zl (Int64.ofNat (runs (TB (alB (L l)) (capN (L l)) (v - 1)) v n (capN (L l) - o)))) σ) : WP m_Counter_waysOnWithLike 0 [zr 137, zi (v : Int), zu, zu, zu] [] σ (0, 0) Q := by
  obtain ⟨c1, c2, c3, c4, c5, c6, c7⟩ := c
  obtain ⟨k1, k2, k3, k4, k5, k6, k7, k8, k9⟩ := k
  obtain ⟨ok, p⟩ := hL l l0 l1
  have hl := isL_law l0 l1
  have hw3 : L l 3 ≤ 400 := by unfold lawOK canB at ok; omega
  have hcap : (capN (L l) : Int) = L l 3 := by unfold capN timesN; rw [if_neg (by omega)]; omega
  have n4 : n ≤ 400 := by omega
  obtain ⟨f, f1, f2⟩ := c6 (by omega)
  have key : ∀ (m x : Nat), x + m = capN (L l) - o + 1 → 1 ≤ x → WP m_Counter_waysOnWithLike 5 [zr 137, zi (v : Int), zl (Int64.ofNat (runs (TB (alB (L l)) (capN (L l)) (v - 1)) v n (x - 1))), zu, zi (x : Int)] [] σ (0, 0) Q := by
    intro m
    induction m with
    | zero =>
      intro x hx x1
      refine r_Counter_waysOnWithLike_5 ?_
      simp only [hS, c1, c2, c5, (hS.lawO hl).1, (p.2.1 h1).2.2, zrI, zrL, zrR, Shp_wI, Shp_wJ, zR_wI, zR_wJ, zJ_wI, zI_wJ, zobj_wI, zobj_wJ, zarr_wI, zarr_wJ, zS_wI, zS_wJ, o_2, a_3, a_4, a_5, o_10, a_11, a_12, o_137, o_138, a_139, o_140, a_141, o_142, a_143, o_146, a_147, a_148, a_149, o_152, a_153, o_154, a_157, o_158, a_159, r_2_0, r_2_1, r_2_2, r_2_3, r_2_4, r_2_5, r_2_6, r_2_7, r_2_8, r_2_9, r_2_10, r_10_0, r_10_1, r_137_0, r_137_1, r_137_2, r_138_0, r_140_0, r_142_0, r_146_0, r_146_1, r_146_2, r_146_3, r_152_0, r_154_0, r_154_1, r_158_0, zrI, zrL, zrR, ne_eq, true_and, and_true, true_or, or_true, not_true_eq_false, not_false_eq_true, false_and, and_false, forall_const, true_implies, false_implies, implies_true, reduceCtorEq, Int.reduceEq, Int.reduceNe, Int.reduceLT, Int.reduceLE, Int.reduceNeg, Nat.reduceEqDiff, if_true, if_false, reduceIte, Int.reduceMul, Int.reduceAdd, Int.reduceSub]
      rw [show x - 1 = capN (L l) - o by omega]
      exact ⟨by omega, fun _ => q, fun cc => by omega⟩
    | succ m ih =>
      intro x hx x1
      have hb := mul_bd (x := (x : Int)) (y := (v : Int)) (X := 400) (Y := 400) (by omega) (by omega)
      have hxv : (x : Int) * (v : Int) = ((x * v : Nat) : Int) := by rw [Int.natCast_mul]
      refine r_Counter_waysOnWithLike_5 ?_
      simp only [hS, c1, c2, c5, (hS.lawO hl).1, (p.2.1 h1).2.2, zrI, zrL, zrR, Shp_wI, Shp_wJ, zR_wI, zR_wJ, zJ_wI, zI_wJ, zobj_wI, zobj_wJ, zarr_wI, zarr_wJ, zS_wI, zS_wJ, o_2, a_3, a_4, a_5, o_10, a_11, a_12, o_137, o_138, a_139, o_140, a_141, o_142, a_143, o_146, a_147, a_148, a_149, o_152, a_153, o_154, a_157, o_158, a_159, r_2_0, r_2_1, r_2_2, r_2_3, r_2_4, r_2_5, r_2_6, r_2_7, r_2_8, r_2_9, r_2_10, r_10_0, r_10_1, r_137_0, r_137_1, r_137_2, r_138_0, r_140_0, r_142_0, r_146_0, r_146_1, r_146_2, r_146_3, r_152_0, r_154_0, r_154_1, r_158_0, zrI, zrL, zrR, ne_eq, true_and, and_true, true_or, or_true, not_true_eq_false, not_false_eq_true, false_and, and_false, forall_const, true_implies, false_implies, implies_true, reduceCtorEq, Int.reduceEq, Int.reduceNe, Int.reduceLT, Int.reduceLE, Int.reduceNeg, Nat.reduceEqDiff, if_true, if_false, reduceIte, Int.reduceMul, Int.reduceAdd, Int.reduceSub]
      rw [hxv] at hb ⊢
      refine ⟨by omega, fun cc => by omega, fun _ => ⟨by omega, fun c2 => ?_, fun c2 => ⟨by omega, by omega, by omega, t_Table_at (w := L l) (f := f) hS f2 (by omega) (by omega) ?_⟩⟩⟩
      · have e : runs (TB (alB (L l)) (capN (L l)) (v - 1)) v n (capN (L l) - o) = runs (TB (alB (L l)) (capN (L l)) (v - 1)) v n (x - 1) := by
          have : ∀ d, x - 1 ≤ d → runs (TB (alB (L l)) (capN (L l)) (v - 1)) v n d = runs (TB (alB (L l)) (capN (L l)) (v - 1)) v n (x - 1) := by
            intro d
            induction d with
            | zero => intro h; rw [show x - 1 = 0 by omega]
            | succ d ihd =>
              intro h
              by_cases e : x - 1 = d + 1
              · rw [e]
              · show runs _ v n d + (if (d + 1) * v ≤ n then _ else 0) = _
                have := Nat.mul_le_mul_right v (show x ≤ d + 1 by omega)
                rw [if_neg (by omega), ihd (by omega)]
                rfl
          exact this _ (by omega)
        rw [e] at q
        exact q
      · simp only [zrI, zrL, zrR, ne_eq, true_and, and_true, true_or, or_true, not_true_eq_false, not_false_eq_true, false_and, and_false, forall_const, true_implies, false_implies, implies_true, reduceCtorEq, Int.reduceEq, Int.reduceNe, Int.reduceLT, Int.reduceLE, Int.reduceNeg, Nat.reduceEqDiff, if_true, if_false, reduceIte, Int.reduceMul, Int.reduceAdd, Int.reduceSub]
        refine ⟨by omega, ?_⟩
        have := ih (x + 1) (by omega) (by omega)
        have e : runs (TB (alB (L l)) (capN (L l)) (v - 1)) v n (x + 1 - 1) = runs (TB (alB (L l)) (capN (L l)) (v - 1)) v n (x - 1) + TB (alB (L l)) (capN (L l)) (v - 1) (n - x * v) := by
          obtain ⟨y, rfl⟩ : ∃ y, x = y + 1 := ⟨x - 1, by omega⟩
          rw [show y + 1 + 1 - 1 = y + 1 by omega, show y + 1 - 1 = y by omega]
          show runs _ v n y + (if (y + 1) * v ≤ n then _ else 0) = _
          rw [if_pos (by omega)]
        rw [e, Int64.ofNat_add, Int.natCast_succ] at this
        have et : (if (n : Int) - ((x * v : Nat) : Int) < 0 then (0 : Int64) else Int64.ofNat (tabN (L l) ((v : Int) - 1).toNat ((n : Int) - ((x * v : Nat) : Int)).toNat)) = Int64.ofNat (TB (alB (L l)) (capN (L l)) (v - 1) (n - x * v)) := by
          rw [if_neg (by omega)]
          unfold tabN
          rw [if_neg (by omega), show ((v : Int) - 1).toNat = v - 1 by omega, show ((n : Int) - ((x * v : Nat) : Int)).toNat = n - x * v by omega]
          rfl
        rw [et]
        exact this
  exact r_Counter_waysOnWithLike_0 (key (capN (L l) - o) 1 (by omega) (by omega))
theorem t_waysOn {Q : ZQ} {σ : ZM} {L : Int → LW} {l N : Int} {i b o n v : Nat} (hS : Shp σ) (hL : LawsP σ L) (l0 : 0 ≤ l) (l1 : l ≤ 7) (hw : L l 0 ≤ 3) (c : CtI σ L l N i b o n) (k : wkI (L l) N i b o n) (hv : 1 ≤ v) (hvg : (v : Int) ≤ grN (L l) i b n) (q : Q (zl (Int64.ofNat (WN (L l) i b o n v))) σ) : WP m_Counter_waysOnWith 0 [zr 137, zi (v : Int)] [] σ (0, 0) Q := by
  obtain ⟨c1, c2, c3, c4, c5, c6, c7⟩ := id c
  obtain ⟨k1, k2, k3, k4, k5, k6, k7, k8, k9⟩ := id k
  obtain ⟨ok, p⟩ := hL l l0 l1
  have hl := isL_law l0 l1
  have hvn : v ≤ n := by
    unfold grN at hvg
    split at hvg
    · split at hvg <;> omega
    · omega
  have n4 : n ≤ 400 := by omega
  have hk0 : 0 ≤ L l 0 := by unfold lawOK canB at ok; omega
  obtain ⟨u, rfl⟩ : ∃ u, v = u + 1 := ⟨v - 1, by omega⟩
  unfold WN at q
  rw [if_neg (show ¬ n < u + 1 by omega)] at q
  have two : L l 0 ≠ 3 → (∀ f, N ≤ f → TabV σ (L l) f → (L l 0 = 1 → 0 < L l 3 → ¬ (0 < i ∧ b = u + 1)) → WP m_Table_at 0 [zr 138, zi (n : Int), zi ((u + 1 : Nat) : Int), zu] [] σ (0, 0) (fun r1 σ2 => zrL r1 (fun y3 => (zobj σ2 137 2 ∧ zobj σ2 137 2 ∧ (-2147483648 ≤ (((u + 1 : Nat) : Int) - 1 : Int) ∧ (((u + 1 : Nat) : Int) - 1 : Int) ≤ 2147483647) ∧ (zobj σ2 (zR σ2 137 0) 9 ∧ WP m_Table_at 0 [zr (zR σ2 137 0), zi (zI σ2 137 4), zi (((u + 1 : Nat) : Int) - 1), zu] [] σ2 (0, 0) (fun r4 σ5 => zrL r4 (fun y6 => Q (zl (y3 - y6)) σ5))))))) := by
    intro h3 f f1 f2 hne
    have e : Int64.ofNat (tabN (L l) (u + 1) n) - Int64.ofNat (tabN (L l) u n) = Int64.ofNat (WN (L l) i b o n (u + 1)) := by
      unfold tabN WN
      rw [if_neg (show ¬ n < u + 1 by omega)]
      by_cases h2 : L l 0 = 2
      · rw [if_pos h2, if_pos h2, if_pos h2, GB_rec, Int64.ofNat_add]
        have : ¬ (0 < i ∧ (b : Int) - ((u + 1 : Nat) : Int) < gapN (L l) (b : Int)) := by
          unfold grN at hvg
          rw [if_pos h2] at hvg
          intro w
          rw [if_neg (by omega)] at hvg
          omega
        rw [if_neg this]
        grind
      · rw [if_neg h2, if_neg h2, if_neg h2, if_neg h3]
        show Int64.ofNat (TB (alB (L l)) (capN (L l)) (u + 1) n) - Int64.ofNat (TB (alB (L l)) (capN (L l)) u n) = _
        rw [TB_diff, show u + 1 - 1 = u by omega]
        by_cases hh : 0 < i ∧ b = u + 1
        · have hc : capN (L l) = 400 := by
            unfold capN timesN
            rw [if_pos (by
              rcases Int.lt_or_le 0 (L l 3) with z | z
              · left
                rcases Int.lt_or_le 0 (L l 0) with y | y
                · exact absurd hh (hne (by omega) z)
                · omega
              · right; unfold lawOK canB at ok; omega)]
            rfl
          have : hadN i b o (u + 1) = o := by unfold hadN; rw [if_pos hh]
          rw [this, hc]
          rw [runs_far (c := 400 - o) (d := 400) (by omega) (by omega) (by omega)]
        · have : hadN i b o (u + 1) = 0 := by unfold hadN; rw [if_neg hh]
          rw [this, Nat.sub_zero]
    unfold WN at e
    rw [if_neg (show ¬ n < u + 1 by omega)] at e
    rw [← e] at q
    refine t_Table_at (w := L l) (f := f) hS f2 (by omega) (by omega) ?_
    rw [if_neg (by omega), Int.toNat_natCast, Int.toNat_natCast]
    simp only [hS, c2, zrI, zrL, zrR, Shp_wI, Shp_wJ, zR_wI, zR_wJ, zJ_wI, zI_wJ, zobj_wI, zobj_wJ, zarr_wI, zarr_wJ, zS_wI, zS_wJ, o_2, a_3, a_4, a_5, o_10, a_11, a_12, o_137, o_138, a_139, o_140, a_141, o_142, a_143, o_146, a_147, a_148, a_149, o_152, a_153, o_154, a_157, o_158, a_159, r_2_0, r_2_1, r_2_2, r_2_3, r_2_4, r_2_5, r_2_6, r_2_7, r_2_8, r_2_9, r_2_10, r_10_0, r_10_1, r_137_0, r_137_1, r_137_2, r_138_0, r_140_0, r_142_0, r_146_0, r_146_1, r_146_2, r_146_3, r_152_0, r_154_0, r_154_1, r_158_0, zrI, zrL, zrR, ne_eq, true_and, and_true, true_or, or_true, not_true_eq_false, not_false_eq_true, false_and, and_false, forall_const, true_implies, false_implies, implies_true, reduceCtorEq, Int.reduceEq, Int.reduceNe, Int.reduceLT, Int.reduceLE, Int.reduceNeg, Nat.reduceEqDiff, if_true, if_false, reduceIte, Int.reduceMul, Int.reduceAdd, Int.reduceSub]
    refine ⟨by omega, t_Table_at (w := L l) (f := f) hS f2 (by omega) (by omega) ?_⟩
    rw [if_neg (by omega), Int.toNat_natCast, show (((u + 1 : Nat) : Int) - 1).toNat = u by omega]
    exact q
  refine r_Counter_waysOnWith_0 ?_
  simp only [hS, c1, c2, c3, c4, (hS.lawO hl).1, p.1, zrI, zrL, zrR, Shp_wI, Shp_wJ, zR_wI, zR_wJ, zJ_wI, zI_wJ, zobj_wI, zobj_wJ, zarr_wI, zarr_wJ, zS_wI, zS_wJ, o_2, a_3, a_4, a_5, o_10, a_11, a_12, o_137, o_138, a_139, o_140, a_141, o_142, a_143, o_146, a_147, a_148, a_149, o_152, a_153, o_154, a_157, o_158, a_159, r_2_0, r_2_1, r_2_2, r_2_3, r_2_4, r_2_5, r_2_6, r_2_7, r_2_8, r_2_9, r_2_10, r_10_0, r_10_1, r_137_0, r_137_1, r_137_2, r_138_0, r_140_0, r_142_0, r_146_0, r_146_1, r_146_2, r_146_3, r_152_0, r_154_0, r_154_1, r_158_0, zrI, zrL, zrR, ne_eq, true_and, and_true, true_or, or_true, not_true_eq_false, not_false_eq_true, false_and, and_false, forall_const, true_implies, false_implies, implies_true, reduceCtorEq, Int.reduceEq, Int.reduceNe, Int.reduceLT, Int.reduceLE, Int.reduceNeg, Nat.reduceEqDiff, if_true, if_false, reduceIte, Int.reduceMul, Int.reduceAdd, Int.reduceSub]
  refine ⟨fun e3 => ?_, fun e3 => ?_⟩
  · obtain ⟨f, f1, f2⟩ := c6 e3
    refine ⟨fun e1 => ?_, fun e1 => ?_⟩
    · have := two e3 f f1 f2 (fun h _ => absurd h e1)
      simp only [zrI, zrL, zrR, ne_eq, true_and, and_true, true_or, or_true, not_true_eq_false, not_false_eq_true, false_and, and_false, forall_const, true_implies, false_implies, implies_true, reduceCtorEq, Int.reduceEq, Int.reduceNe, Int.reduceLT, Int.reduceLE, Int.reduceNeg, Nat.reduceEqDiff, if_true, if_false, reduceIte, Int.reduceMul, Int.reduceAdd, Int.reduceSub] at this
      exact this
    · rw [(p.2.1 e1).2.2]
      refine ⟨fun ht => ?_, fun ht => ⟨fun hne => ?_, fun he => ?_⟩⟩
      · have := two e3 f f1 f2 (fun _ h => by omega)
        simp only [zrI, zrL, zrR, ne_eq, true_and, and_true, true_or, or_true, not_true_eq_false, not_false_eq_true, false_and, and_false, forall_const, true_implies, false_implies, implies_true, reduceCtorEq, Int.reduceEq, Int.reduceNe, Int.reduceLT, Int.reduceLE, Int.reduceNeg, Nat.reduceEqDiff, if_true, if_false, reduceIte, Int.reduceMul, Int.reduceAdd, Int.reduceSub] at this
        exact this
      · have := two e3 f f1 f2 (fun _ _ h => hne (by omega))
        simp only [zrI, zrL, zrR, ne_eq, true_and, and_true, true_or, or_true, not_true_eq_false, not_false_eq_true, false_and, and_false, forall_const, true_implies, false_implies, implies_true, reduceCtorEq, Int.reduceEq, Int.reduceNe, Int.reduceLT, Int.reduceLE, Int.reduceNeg, Nat.reduceEqDiff, if_true, if_false, reduceIte, Int.reduceMul, Int.reduceAdd, Int.reduceSub] at this
        exact this
      · have hi : 0 < i := by
          rcases Nat.eq_zero_or_pos i with z | z
          · have := k1 z; omega
          · exact z
        refine t_waysLike hS hL l0 l1 c k e1 ht (by omega) hvn ?_
        simp only [zrI, zrL, zrR, ne_eq, true_and, and_true, true_or, or_true, not_true_eq_false, not_false_eq_true, false_and, and_false, forall_const, true_implies, false_implies, implies_true, reduceCtorEq, Int.reduceEq, Int.reduceNe, Int.reduceLT, Int.reduceLE, Int.reduceNeg, Nat.reduceEqDiff, if_true, if_false, reduceIte, Int.reduceMul, Int.reduceAdd, Int.reduceSub]
        rw [if_neg (by omega), if_neg e3, if_pos (by have := k3 hi (by omega); rw [show b = u + 1 by omega] at this; exact this)] at q
        have : hadN i b o (u + 1) = o := by unfold hadN; rw [if_pos ⟨hi, by omega⟩]
        rw [this] at q
        exact q
  · obtain ⟨f, f1, f2⟩ := c7 e3
    rw [(p.2.2.2.1 e3).1]
    have hw1 : 0 ≤ L l 1 ∧ L l 1 ≤ 60 := by unfold lawOK canB at ok; omega
    have n6 : n ≤ 60 := by unfold covN at k9; rw [if_pos e3] at k9; omega
    refine ⟨by omega, by omega, by omega, t_Box_at (f := f) hS f2 (by omega) (by omega) ?_⟩
    simp only [zrI, zrL, zrR, ne_eq, true_and, and_true, true_or, or_true, not_true_eq_false, not_false_eq_true, false_and, and_false, forall_const, true_implies, false_implies, implies_true, reduceCtorEq, Int.reduceEq, Int.reduceNe, Int.reduceLT, Int.reduceLE, Int.reduceNeg, Nat.reduceEqDiff, if_true, if_false, reduceIte, Int.reduceMul, Int.reduceAdd, Int.reduceSub]
    rw [if_neg (by omega), if_pos e3] at q
    have hv2 : ((u + 1 : Nat) : Int) ≤ L l 2 := by
      unfold grN at hvg
      rw [if_pos e3] at hvg
      split at hvg
      · omega
      · rename_i hi
        have := k4 (by omega) e3
        rw [if_neg (by omega)] at hvg
        omega
    unfold bxL
    by_cases c8 : L l 1 ≤ (i : Int)
    · rw [if_pos (Or.inl c8)] at q
      rw [if_pos (by omega)]
      exact q
    · rw [if_neg (by omega)] at q
      rw [if_neg (by omega), show (L l 1 - (i : Int) - 1).toNat = (L l 1).toNat - i - 1 by omega, Int.toNat_natCast, show ((n : Int) - ((u + 1 : Nat) : Int)).toNat = n - (u + 1) by omega]
      exact q
