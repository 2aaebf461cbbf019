/-! Abacus, of the class: set, read -/
/-- the place of part i among W -/
def fB (l : List Int) (W i : Nat) : Nat := (ga l i).toNat + W - 1 - i
def stB (l : List Int) (W : Nat) : Nat → BF
  | 0 => fun _ => false
  | k + 1 => upB (stB l W k) (fB l W k) true
theorem fB_lt {l : List Int} {W i j : Nat} (hp : Pt l) (h : i < j) (hj : j < W) : fB l W j < fB l W i := by
  have h1 := hp.2.2 (i : Int) (j : Int) (by omega) (by omega)
  have h2 := hp.rng (i : Int)
  have h3 := hp.rng (j : Int)
  unfold fB
  omega
theorem stB_gt {l : List Int} {W : Nat} (hp : Pt l) : ∀ k, k ≤ W → ∀ p, stB l W k p = true → ∀ j, k ≤ j → j < W → fB l W j < p
  | 0, _, p, h, _, _, _ => by exact absurd h (by simp [stB])
  | k + 1, hk, p, h, j, j1, j2 => by
    have h' : upB (stB l W k) (fB l W k) true p = true := h
    unfold upB at h'
    by_cases e : p = fB l W k
    · rw [e]; exact fB_lt hp (by omega) j2
    · rw [if_neg e] at h'
      exact stB_gt hp k (by omega) p h' j (by omega) j2
theorem stB_new {l : List Int} {W k : Nat} (hp : Pt l) (hk : k < W) : stB l W k (fB l W k) = false := by
  cases h : stB l W k (fB l W k) with
  | false => rfl
  | true => exact absurd (stB_gt hp k (by omega) _ h k (Nat.le_refl _) hk) (by omega)
theorem fB_bd {l : List Int} {W i : Nat} (hp : Pt l) (hi : i < W) : fB l W i < 400 + W := by
  have := hp.rng (i : Int)
  unfold fB
  omega
theorem stB_far {l : List Int} {W : Nat} (hp : Pt l) : ∀ k, k ≤ W → ∀ p, 400 + W ≤ p → stB l W k p = false
  | 0, _, _, _ => rfl
  | k + 1, hk, p, h => by
    have := fB_bd hp (show k < W by omega)
    show upB (stB l W k) (fB l W k) true p = false
    unfold upB
    rw [if_neg (by omega)]
    exact stB_far hp k (by omega) p h
theorem stB_cp {l : List Int} {W T : Nat} (hp : Pt l) (hT : 400 + W ≤ T) : ∀ k, k ≤ W → cB (stB l W k) T = k ∧ pB (stB l W k) T = sN (fun i => fB l W i) k
  | 0, _ => by
    have h1 : ∀ T, cB (fun _ => false) T = 0 ∧ pB (fun _ => false) T = 0 := by
      intro T
      induction T with
      | zero => exact ⟨rfl, rfl⟩
      | succ T ih => exact ⟨by show cB (fun _ => false) T + 0 = 0; rw [ih.1], by show pB (fun _ => false) T + 0 = 0; rw [ih.2]⟩
    exact h1 T
  | k + 1, hk => by
    have ih := stB_cp hp hT k (by omega)
    have hb := fB_bd hp (show k < W by omega)
    have hn := stB_new hp (show k < W by omega)
    exact ⟨by show cB (upB (stB l W k) (fB l W k) true) T = k + 1; rw [cB_up hn T (by omega), ih.1], by show pB (upB (stB l W k) (fB l W k) true) T = _ + fB l W k; rw [pB_up hn T (by omega), ih.2]⟩
theorem sum_fB {l : List Int} {W : Nat} (hp : Pt l) : ∀ k, k ≤ W → sN (fun i => fB l W i) k + tz (W - k) = sN (fun i => (ga l (i : Int)).toNat) k + tz W
  | 0, _ => by
    show 0 + tz (W - 0) = 0 + tz W
    rfl
  | k + 1, hk => by
    have ih := sum_fB (l := l) (W := W) hp k (by omega)
    show sN (fun i => fB l W i) k + fB l W k + tz (W - (k + 1)) = sN (fun i => (ga l (i : Int)).toNat) k + (ga l (k : Int)).toNat + tz W
    obtain ⟨m, hm⟩ : ∃ m, W - k = m + 1 := ⟨W - k - 1, by omega⟩
    rw [hm] at ih
    have e : tz (m + 1) = tz m + m := rfl
    rw [e] at ih
    have ef : fB l W k = (ga l (k : Int)).toNat + m := by unfold fB; omega
    rw [show W - (k + 1) = m by omega, ef]
    omega
theorem sum_ga {l : List Int} (hp : ∀ x ∈ l, 1 ≤ x) : ∀ k : Nat, ((sN (fun i => (ga l (i : Int)).toNat) k : Nat) : Int) = (l.take k).sum
  | 0 => rfl
  | k + 1 => by
    show ((sN (fun i => (ga l (i : Int)).toNat) k + (ga l (k : Int)).toNat : Nat) : Int) = _
    rw [Int.natCast_add, sum_ga hp k]
    by_cases c : k < l.length
    · have e := take_snoc (l := l) (i := (k : Int)) (by omega) (by omega)
      rw [show ((k : Int) + 1).toNat = k + 1 by omega, Int.toNat_natCast] at e
      have := hp _ (ga_mem (l := l) (i := (k : Int)) (by omega) (by omega))
      rw [e, List.sum_append]
      simp
      omega
    · rw [ga_out (by omega), List.take_of_length_le (by omega), List.take_of_length_le (by omega)]
      simp
/-- what the beads of a SUM read is worth it -/
theorem eB_st {l : List Int} {W T : Nat} (hp : Pt l) (hW : l.length ≤ W) (hT : 400 + W ≤ T) : (eB (stB l W W) T : Int) = l.sum := by
  obtain ⟨h1, h2⟩ := stB_cp hp hT W (Nat.le_refl _)
  have h3 := eB_pB (stB l W W) T
  have h4 := sum_fB hp W (Nat.le_refl _)
  have h5 := sum_ga hp.1 W
  rw [List.take_of_length_le hW] at h5
  rw [h1, h2] at h3
  rw [Nat.sub_self] at h4
  have : tz 0 = 0 := rfl
  omega
/-- the abacus of the class -/
def AbI (σ : ZM) (t : Nat) (B : BF) : Prop := zI σ 152 1 = (t : Int) ∧ (∀ p : Nat, p < 812 → zI σ 153 (p : Int) = if B p then 1 else 0) ∧ ∀ p, 812 ≤ p → B p = false
abbrev abf (a : Nat) : Prop := a = 152 ∨ a = 153
/-- the least multiple of t that isn't below n -/
def widN (n t : Nat) : Nat := (n + t - 1) / t * t
theorem widN_bd {n t : Nat} (ht : 1 ≤ t) : n ≤ widN n t ∧ widN n t ≤ n + t - 1 := by
  unfold widN
  have h1 := Nat.div_add_mod (n + t - 1) t
  have h2 := Nat.mod_lt (n + t - 1) (show 0 < t by omega)
  rw [Nat.mul_comm] at h1
  omega
theorem t_setBead {Q : ZQ} {σ : ZM} {t p : Nat} {B : BF} (hS : Shp σ) (a : AbI σ t B) (hp : p < 812) (q : ∀ σ', AbI σ' t (upB B p true) → Fr (fun a => a = 153) σ σ' → Q zu σ') : WP m_Abacus_setBead 0 [zr 152, zi (p : Int)] [] σ (0, 0) Q := by
  refine r_Abacus_setBead_0 ?_
  simp only [hS, zrI, zrL, zrR, Shp_wI, Shp_wJ, zR_wI, zR_wJ, zJ_wI, zI_wJ, zobj_wI, zobj_wJ, zarr_wI, zarr_wJ, zS_wI, zS_wJ, o_2, a_3, a_4, a_5, o_10, a_11, a_12, o_137, o_138, a_139, o_140, a_141, o_142, a_143, o_146, a_147, a_148, a_149, o_152, a_153, o_154, a_157, o_158, a_159, r_2_0, r_2_1, r_2_2, r_2_3, r_2_4, r_2_5, r_2_6, r_2_7, r_2_8, r_2_9, r_2_10, r_10_0, r_10_1, r_137_0, r_137_1, r_137_2, r_138_0, r_140_0, r_142_0, r_146_0, r_146_1, r_146_2, r_146_3, r_152_0, r_154_0, r_154_1, r_158_0, zrI, zrL, zrR, ne_eq, true_and, and_true, true_or, or_true, not_true_eq_false, not_false_eq_true, false_and, and_false, forall_const, true_implies, false_implies, implies_true, reduceCtorEq, Int.reduceEq, Int.reduceNe, Int.reduceLT, Int.reduceLE, Int.reduceNeg, Nat.reduceEqDiff, if_true, if_false, reduceIte, Int.reduceMul, Int.reduceAdd, Int.reduceSub]
  refine ⟨fun c => by omega, fun _ => ⟨fun c => by omega, fun _ => ⟨by omega, q _ ⟨?_, fun x hx => ?_, fun x hx => ?_⟩ (Fr.wI rfl)⟩⟩⟩
  · rw [zI_wI, if_neg (by omega)]; exact a.1
  · rw [zI_wI]
    unfold upB
    by_cases e : x = p
    · rw [if_pos ⟨rfl, by omega⟩, if_pos e]
      rfl
    · rw [if_neg (by omega), if_neg e]
      exact a.2.1 x hx
  · unfold upB
    rw [if_neg (by omega)]
    exact a.2.2 x hx
theorem t_abset {Q : ZQ} {σ : ZM} {g t n : Nat} {l : List Int} (hS : Shp σ) (hg : isS g) (hp : Pt l) (hl : Lz σ g l) (t0 : 2 ≤ t) (t1 : t ≤ 12) (hn : l.length ≤ n) (hn4 : n ≤ 400) (q : ∀ σ', AbI σ' t (stB l (widN n t) (widN n t)) → Fr abf σ σ' → Q zu σ') : WP m_Abacus_set 0 [zr 152, zr g, zi (t : Int), zi (n : Int), zu, zu] [] σ (0, 0) Q := by
  have hW := widN_bd (n := n) (t := t) (by omega)
  have hgS : g ≠ 152 ∧ g ≠ 153 ∧ g + 1 ≠ 152 ∧ g + 1 ≠ 153 := by unfold isS at hg; omega
  have ew : Int.tdiv ((n : Int) + (t : Int) - 1) (t : Int) * (t : Int) = (widN n t : Int) := by
    unfold widN
    rw [Int.tdiv_eq_ediv_of_nonneg (by omega), Int.natCast_mul, Int.natCast_ediv, show ((n + t - 1 : Nat) : Int) = (n : Int) + (t : Int) - 1 by omega]
  have ed : 0 ≤ Int.tdiv ((n : Int) + (t : Int) - 1) (t : Int) ∧ Int.tdiv ((n : Int) + (t : Int) - 1) (t : Int) ≤ (n : Int) + (t : Int) - 1 := by
    rw [Int.tdiv_eq_ediv_of_nonneg (by omega)]
    exact ⟨Int.ediv_nonneg (by omega) (by omega), Int.ediv_le_self _ (by omega)⟩
  have k57 : ∀ (m k : Nat) (τ : ZM) (u2 u3 : PV), k + m = widN n t → AbI τ t (stB l (widN n t) k) → Fr abf σ τ → WP m_Abacus_set 57 [zr 152, zr g, u2, u3, zi (widN n t : Int), zi (k : Int)] [] τ (0, 0) Q := by
    intro m
    induction m with
    | zero =>
      intro k τ u2 u3 hk a f
      rw [show k = widN n t by omega] at a
      exact r_Abacus_set_57 ⟨fun _ => q τ a f, fun c => by omega⟩
    | succ m ih =>
      intro k τ u2 u3 hk a f
      have hT := f.shp hS
      have hr := hp.rng (k : Int)
      refine r_Abacus_set_57 ?_
      simp only [hT, (hT.sumO hg).1, zrI, zrL, zrR, Shp_wI, Shp_wJ, zR_wI, zR_wJ, zJ_wI, zI_wJ, zobj_wI, zobj_wJ, zarr_wI, zarr_wJ, zS_wI, zS_wJ, o_2, a_3, a_4, a_5, o_10, a_11, a_12, o_137, o_138, a_139, o_140, a_141, o_142, a_143, o_146, a_147, a_148, a_149, o_152, a_153, o_154, a_157, o_158, a_159, r_2_0, r_2_1, r_2_2, r_2_3, r_2_4, r_2_5, r_2_6, r_2_7, r_2_8, r_2_9, r_2_10, r_10_0, r_10_1, r_137_0, r_137_1, r_137_2, r_138_0, r_140_0, r_142_0, r_146_0, r_146_1, r_146_2, r_146_3, r_152_0, r_154_0, r_154_1, r_158_0, zrI, zrL, zrR, ne_eq, true_and, and_true, true_or, or_true, not_true_eq_false, not_false_eq_true, false_and, and_false, forall_const, true_implies, false_implies, implies_true, reduceCtorEq, Int.reduceEq, Int.reduceNe, Int.reduceLT, Int.reduceLE, Int.reduceNeg, Nat.reduceEqDiff, if_true, if_false, reduceIte, Int.reduceMul, Int.reduceAdd, Int.reduceSub]
      refine ⟨fun c => by omega, fun _ => t_Sum_at (hT.sumO hg) (f.lz (by omega) (by omega) hl) ?_⟩
      simp only [hT, zrI, zrL, zrR, Shp_wI, Shp_wJ, zR_wI, zR_wJ, zJ_wI, zI_wJ, zobj_wI, zobj_wJ, zarr_wI, zarr_wJ, zS_wI, zS_wJ, o_2, a_3, a_4, a_5, o_10, a_11, a_12, o_137, o_138, a_139, o_140, a_141, o_142, a_143, o_146, a_147, a_148, a_149, o_152, a_153, o_154, a_157, o_158, a_159, r_2_0, r_2_1, r_2_2, r_2_3, r_2_4, r_2_5, r_2_6, r_2_7, r_2_8, r_2_9, r_2_10, r_10_0, r_10_1, r_137_0, r_137_1, r_137_2, r_138_0, r_140_0, r_142_0, r_146_0, r_146_1, r_146_2, r_146_3, r_152_0, r_154_0, r_154_1, r_158_0, zrI, zrL, zrR, ne_eq, true_and, and_true, true_or, or_true, not_true_eq_false, not_false_eq_true, false_and, and_false, forall_const, true_implies, false_implies, implies_true, reduceCtorEq, Int.reduceEq, Int.reduceNe, Int.reduceLT, Int.reduceLE, Int.reduceNeg, Nat.reduceEqDiff, if_true, if_false, reduceIte, Int.reduceMul, Int.reduceAdd, Int.reduceSub]
      refine ⟨by omega, by omega, by omega, ?_⟩
      rw [show ga l (k : Int) + (widN n t : Int) - 1 - (k : Int) = (fB l (widN n t) k : Int) by unfold fB; omega]
      have hb := fB_bd hp (show k < widN n t by omega)
      refine t_setBead hT a (by omega) (fun υ w1 w2 => ⟨by omega, ?_⟩)
      have := ih (k + 1) υ u2 u3 (by omega) w1 (f.tr (w2.mono (fun a w => Or.inr w)))
      rw [Int.natCast_succ] at this
      exact this
  have k32 : ∀ (m k : Nat) (τ : ZM) (u2 u3 : PV), k + m = 812 → zI τ 152 1 = (t : Int) → (∀ p : Nat, p < k → zI τ 153 (p : Int) = 0) → Fr abf σ τ → WP m_Abacus_set 32 [zr 152, zr g, u2, u3, zi (widN n t : Int), zi (k : Int)] [] τ (0, 0) Q := by
    intro m
    induction m with
    | zero =>
      intro k τ u2 u3 hk e1 hv f
      refine r_Abacus_set_32 ⟨fun _ => k57 (widN n t) 0 τ _ _ (by omega) ⟨e1, fun p hp => ?_, fun p _ => rfl⟩ f, fun c => by omega⟩
      rw [hv p (by omega)]
      rfl
    | succ m ih =>
      intro k τ u2 u3 hk e1 hv f
      refine r_Abacus_set_32 ?_
      simp only [f.shp hS, zrI, zrL, zrR, Shp_wI, Shp_wJ, zR_wI, zR_wJ, zJ_wI, zI_wJ, zobj_wI, zobj_wJ, zarr_wI, zarr_wJ, zS_wI, zS_wJ, o_2, a_3, a_4, a_5, o_10, a_11, a_12, o_137, o_138, a_139, o_140, a_141, o_142, a_143, o_146, a_147, a_148, a_149, o_152, a_153, o_154, a_157, o_158, a_159, r_2_0, r_2_1, r_2_2, r_2_3, r_2_4, r_2_5, r_2_6, r_2_7, r_2_8, r_2_9, r_2_10, r_10_0, r_10_1, r_137_0, r_137_1, r_137_2, r_138_0, r_140_0, r_142_0, r_146_0, r_146_1, r_146_2, r_146_3, r_152_0, r_154_0, r_154_1, r_158_0, zrI, zrL, zrR, ne_eq, true_and, and_true, true_or, or_true, not_true_eq_false, not_false_eq_true, false_and, and_false, forall_const, true_implies, false_implies, implies_true, reduceCtorEq, Int.reduceEq, Int.reduceNe, Int.reduceLT, Int.reduceLE, Int.reduceNeg, Nat.reduceEqDiff, if_true, if_false, reduceIte, Int.reduceMul, Int.reduceAdd, Int.reduceSub]
      refine ⟨fun c => by omega, fun _ => ⟨by omega, by omega, ?_⟩⟩
      have := ih (k + 1) (wI τ 153 (k : Int) 0) u2 u3 (by omega) (by rw [zI_wI, if_neg (by omega)]; exact e1) (fun p hp => ?_) (f.tr (Fr.wI (Or.inr rfl)))
      · rw [Int.natCast_succ] at this
        exact this
      · rw [zI_wI]
        split
        · rfl
        · exact hv p (by omega)
  refine r_Abacus_set_0 ?_
  simp only [hS, zrI, zrL, zrR, Shp_wI, Shp_wJ, zR_wI, zR_wJ, zJ_wI, zI_wJ, zobj_wI, zobj_wJ, zarr_wI, zarr_wJ, zS_wI, zS_wJ, o_2, a_3, a_4, a_5, o_10, a_11, a_12, o_137, o_138, a_139, o_140, a_141, o_142, a_143, o_146, a_147, a_148, a_149, o_152, a_153, o_154, a_157, o_158, a_159, r_2_0, r_2_1, r_2_2, r_2_3, r_2_4, r_2_5, r_2_6, r_2_7, r_2_8, r_2_9, r_2_10, r_10_0, r_10_1, r_137_0, r_137_1, r_137_2, r_138_0, r_140_0, r_142_0, r_146_0, r_146_1, r_146_2, r_146_3, r_152_0, r_154_0, r_154_1, r_158_0, zrI, zrL, zrR, ne_eq, true_and, and_true, true_or, or_true, not_true_eq_false, not_false_eq_true, false_and, and_false, forall_const, true_implies, false_implies, implies_true, reduceCtorEq, Int.reduceEq, Int.reduceNe, Int.reduceLT, Int.reduceLE, Int.reduceNeg, Nat.reduceEqDiff, if_true, if_false, reduceIte, Int.reduceMul, Int.reduceAdd, Int.reduceSub]
  refine t_max ?_
  rw [show max 2 (t : Int) = (t : Int) by omega]
  have e1 : zI (wI σ 152 1 (t : Int)) 152 1 = (t : Int) := by rw [zI_wI, if_pos ⟨rfl, rfl⟩]
  simp only [hS, e1, ew, zrI, zrL, zrR, Shp_wI, Shp_wJ, zR_wI, zR_wJ, zJ_wI, zI_wJ, zobj_wI, zobj_wJ, zarr_wI, zarr_wJ, zS_wI, zS_wJ, o_2, a_3, a_4, a_5, o_10, a_11, a_12, o_137, o_138, a_139, o_140, a_141, o_142, a_143, o_146, a_147, a_148, a_149, o_152, a_153, o_154, a_157, o_158, a_159, r_2_0, r_2_1, r_2_2, r_2_3, r_2_4, r_2_5, r_2_6, r_2_7, r_2_8, r_2_9, r_2_10, r_10_0, r_10_1, r_137_0, r_137_1, r_137_2, r_138_0, r_140_0, r_142_0, r_146_0, r_146_1, r_146_2, r_146_3, r_152_0, r_154_0, r_154_1, r_158_0, zrI, zrL, zrR, ne_eq, true_and, and_true, true_or, or_true, not_true_eq_false, not_false_eq_true, false_and, and_false, forall_const, true_implies, false_implies, implies_true, reduceCtorEq, Int.reduceEq, Int.reduceNe, Int.reduceLT, Int.reduceLE, Int.reduceNeg, Nat.reduceEqDiff, if_true, if_false, reduceIte, Int.reduceMul, Int.reduceAdd, Int.reduceSub]
  refine ⟨by omega, by omega, by omega, by omega, by omega, ?_⟩
  exact k32 812 0 _ _ _ (by omega) e1 (fun p h => by omega) (Fr.wI (Or.inl rfl))
