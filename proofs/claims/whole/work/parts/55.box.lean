/-! Box, of the class -/
def sq : Nat → Nat
  | 0 => 0
  | n + 1 => sq n + (n + 1) * (n + 1)
theorem sq_six : ∀ n : Nat, n * (n + 1) * (2 * n + 1) = 6 * sq n
  | 0 => rfl
  | n + 1 => by
    have ih := sq_six n
    show (n + 1) * (n + 1 + 1) * (2 * (n + 1) + 1) = 6 * (sq n + (n + 1) * (n + 1))
    grind
theorem sq_lt : ∀ {n m : Nat}, n < m → sq n + (n + 1) * (n + 1) ≤ sq m
  | n, 0, h => by omega
  | n, m + 1, h => by
    show _ ≤ sq m + (m + 1) * (m + 1)
    by_cases e : n = m
    · rw [e]; exact Nat.le_refl _
    · have := sq_lt (show n < m by omega)
      omega
theorem sq_le {n : Nat} (h : n ≤ 60) : sq n + (n + 1) * (n + 1) ≤ 77531 := by
  have h1 := sq_lt (show n < 61 by omega)
  have h2 : sq 61 = 77531 := by decide +kernel
  omega
theorem sq_int (n : Nat) : (n : Int) * ((n : Int) + 1) * (2 * (n : Int) + 1) = 6 * (sq n : Int) := by
  have h : ((n * (n + 1) * (2 * n + 1) : Nat) : Int) = ((6 * sq n : Nat) : Int) := by rw [sq_six n]
  simpa using h
theorem sq_div (n : Nat) : Int.tdiv (6 * (sq n : Int)) 6 = (sq n : Int) := by
  rw [Int.tdiv_eq_ediv_of_nonneg (by omega)]
  omega
theorem t_firstOf {Q : ZQ} {σ : ZM} {n : Nat} (hn : n ≤ 60) (q : Q (zi (sq n : Int)) σ) : WP m_Box_firstOf 0 [zi (n : Int)] [] σ (0, 0) Q := by
  have h1 := sq_le hn
  have h2 := tri_le (show n ≤ 400 by omega)
  refine r_Box_firstOf_0 ?_
  rw [sq_int, sq_div, tri_int]
  exact ⟨by omega, by omega, by omega, by omega, by omega, by decide, by omega, q⟩
theorem box_ix {n p q p' q' : Nat} (hq : q ≤ n) (hq' : q' ≤ n) (h : p * (n + 1) + q = p' * (n + 1) + q') : p = p' ∧ q = q' := by
  have h1 : p = p' := by
    have e1 : (p * (n + 1) + q) / (n + 1) = p := by
      rw [Nat.mul_comm, Nat.mul_add_div (by omega), Nat.div_eq_of_lt (by omega)]; rfl
    have e2 : (p' * (n + 1) + q') / (n + 1) = p' := by
      rw [Nat.mul_comm, Nat.mul_add_div (by omega), Nat.div_eq_of_lt (by omega)]; rfl
    rw [← e1, h, e2]
  rw [h1] at h
  exact ⟨h1, by omega⟩
theorem box_lt {n p q : Nat} (hp : p ≤ n) (hq : q ≤ n) : p * (n + 1) + q < (n + 1) * (n + 1) := by
  have h1 : p * (n + 1) ≤ n * (n + 1) := Nat.mul_le_mul_right _ hp
  have h2 : (n + 1) * (n + 1) = n * (n + 1) + (n + 1) := by rw [Nat.add_mul n 1 (n + 1), Nat.one_mul]
  omega
def BoxV (σ : ZM) (f : Int) : Prop := ∀ n p q : Nat, (n : Int) ≤ f → n ≤ 60 → p ≤ n → q ≤ n → zI σ 141 ((sq n : Int) + ((p * (n + 1) + q : Nat) : Int)) = (BB p q n : Int)
/-- what the box tells -/
def bxL (p q n : Int) : Int64 := if p < 0 ∨ q < 0 ∨ n < 0 then 0 else Int64.ofNat (BB p.toNat q.toNat n.toNat)
theorem t_Box_at {Q : ZQ} {σ : ZM} {p q n f : Int} (hS : Shp σ) (hB : BoxV σ f) (hn : n ≤ f) (n6 : n ≤ 60) (k : Q (zl (bxL p q n)) σ) : WP m_Box_at 0 [zr 140, zi p, zi q, zi n] [] σ (0, 0) Q := by
  unfold bxL at k
  refine r_Box_at_0 ?_
  simp only [hS, zrI, zrL, zrR, Shp_wI, Shp_wJ, zR_wI, zR_wJ, zJ_wI, zI_wJ, zobj_wI, zobj_wJ, zarr_wI, zarr_wJ, zS_wI, zS_wJ, o_2, a_3, a_4, a_5, o_10, a_11, a_12, o_137, o_138, a_139, o_140, a_141, o_142, a_143, o_146, a_147, a_148, a_149, o_152, a_153, o_154, a_157, o_158, a_159, r_2_0, r_2_1, r_2_2, r_2_3, r_2_4, r_2_5, r_2_6, r_2_7, r_2_8, r_2_9, r_2_10, r_10_0, r_10_1, r_137_0, r_137_1, r_137_2, r_138_0, r_140_0, r_142_0, r_146_0, r_146_1, r_146_2, r_146_3, r_152_0, r_154_0, r_154_1, r_158_0, zrI, zrL, zrR, ne_eq, true_and, and_true, true_or, or_true, not_true_eq_false, not_false_eq_true, false_and, and_false, forall_const, true_implies, false_implies, implies_true, reduceCtorEq, Int.reduceEq, Int.reduceNe, Int.reduceLT, Int.reduceLE, Int.reduceNeg, Nat.reduceEqDiff, if_true, if_false, reduceIte, Int.reduceMul, Int.reduceAdd, Int.reduceSub]
  refine ⟨fun c => by rw [if_pos (Or.inl c)] at k; exact k, fun p0 => ⟨fun c => by rw [if_pos (Or.inr (Or.inl c))] at k; exact k, fun q0 => ⟨fun c => by rw [if_pos (Or.inr (Or.inr c))] at k; exact k, fun n0 => ⟨fun _ => ?_, fun c => by omega⟩⟩⟩⟩
  rw [if_neg (by omega)] at k
  obtain ⟨m, rfl⟩ := Int.eq_ofNat_of_zero_le n0
  obtain ⟨p, rfl⟩ := Int.eq_ofNat_of_zero_le p0
  obtain ⟨q, rfl⟩ := Int.eq_ofNat_of_zero_le q0
  rw [Int.toNat_natCast, Int.toNat_natCast, Int.toNat_natCast, BB_clip] at k
  have hlt := box_lt (n := m) (p := min p m) (q := min q m) (by omega) (by omega)
  have hsq := sq_le (show m ≤ 60 by omega)
  have hv := hB m (min p m) (min q m) hn (by omega) (by omega) (by omega)
  have ep : min (p : Int) (m : Int) = ((min p m : Nat) : Int) := by omega
  have eq' : min (q : Int) (m : Int) = ((min q m : Nat) : Int) := by omega
  have em : ((min p m : Nat) : Int) * ((m : Int) + 1) = ((min p m * (m + 1) : Nat) : Int) := by rw [Int.natCast_mul, Int.natCast_succ]
  refine t_firstOf (by omega) ?_
  simp only [zrI, zrL, zrR, ne_eq, true_and, and_true, true_or, or_true, not_true_eq_false, not_false_eq_true, false_and, and_false, forall_const, true_implies, false_implies, implies_true, reduceCtorEq, Int.reduceEq, Int.reduceNe, Int.reduceLT, Int.reduceLE, Int.reduceNeg, Nat.reduceEqDiff, if_true, if_false, reduceIte, Int.reduceMul, Int.reduceAdd, Int.reduceSub]
  refine t_min ?_
  simp only [ep, em, zrI, zrL, zrR, ne_eq, true_and, and_true, true_or, or_true, not_true_eq_false, not_false_eq_true, false_and, and_false, forall_const, true_implies, false_implies, implies_true, reduceCtorEq, Int.reduceEq, Int.reduceNe, Int.reduceLT, Int.reduceLE, Int.reduceNeg, Nat.reduceEqDiff, if_true, if_false, reduceIte, Int.reduceMul, Int.reduceAdd, Int.reduceSub]
  refine ⟨by omega, by omega, by omega, t_min ?_⟩
  simp only [hS, eq', zrI, zrL, zrR, Shp_wI, Shp_wJ, zR_wI, zR_wJ, zJ_wI, zI_wJ, zobj_wI, zobj_wJ, zarr_wI, zarr_wJ, zS_wI, zS_wJ, o_2, a_3, a_4, a_5, o_10, a_11, a_12, o_137, o_138, a_139, o_140, a_141, o_142, a_143, o_146, a_147, a_148, a_149, o_152, a_153, o_154, a_157, o_158, a_159, r_2_0, r_2_1, r_2_2, r_2_3, r_2_4, r_2_5, r_2_6, r_2_7, r_2_8, r_2_9, r_2_10, r_10_0, r_10_1, r_137_0, r_137_1, r_137_2, r_138_0, r_140_0, r_142_0, r_146_0, r_146_1, r_146_2, r_146_3, r_152_0, r_154_0, r_154_1, r_158_0, zrI, zrL, zrR, ne_eq, true_and, and_true, true_or, or_true, not_true_eq_false, not_false_eq_true, false_and, and_false, forall_const, true_implies, false_implies, implies_true, reduceCtorEq, Int.reduceEq, Int.reduceNe, Int.reduceLT, Int.reduceLE, Int.reduceNeg, Nat.reduceEqDiff, if_true, if_false, reduceIte, Int.reduceMul, Int.reduceAdd, Int.reduceSub]
  have e3 : (sq m : Int) + ((min p m * (m + 1) : Nat) : Int) + ((min q m : Nat) : Int) = (sq m : Int) + ((min p m * (m + 1) + min q m : Nat) : Int) := by omega
  rw [e3, hv, Int64.ofInt_eq_ofNat]
  exact ⟨by omega, by omega, k⟩
theorem rows60 : ((rowsP 60).take 61).all (fun x => Nat.blt x 2147483648) = true := by decide +kernel
theorem BB_small {p q n : Nat} (hq : q ≤ 60) (hn : n ≤ 60) : BB p q n < 2147483648 := by
  have h1 := BB_le p q n (by omega)
  have h1' := PB_mono (n := n) hq
  have h2 := List.all_eq_true.mp rows60 ((rowsP 60).getD n 0) (by
    have hl : n < (rowsP 60).length := by rw [rowsP_len]; omega
    rw [List.getD_eq_getElem?_getD, List.getElem?_eq_getElem hl]
    show (rowsP 60)[n] ∈ _
    rw [List.mem_take_iff_getElem]
    exact ⟨n, by omega, rfl⟩)
  rw [rowsP_get 60 n (by omega)] at h2
  have h3 : PB 60 n < 2147483648 := by
    rw [Nat.blt_eq] at h2
    exact h2
  omega
theorem to32 {a : Nat} (h : a < 2147483648) : (Int64.toInt32 (Int64.ofNat a)).toInt = (a : Int) := by
  rw [Int64.toInt_toInt32, Int64.toInt_ofNat_of_lt (by omega)]
  exact Int.bmod_eq_of_le (by omega) (by omega)
theorem t_Box_row {Q : ZQ} {σ : ZM} {n p x : Nat} (hS : Shp σ) (hB : BoxV σ ((n : Int) - 1)) (hr : ∀ p' q' : Nat, p' ≤ n → q' ≤ n → p' * (n + 1) + q' < p * (n + 1) + x → zI σ 141 ((sq n : Int) + ((p' * (n + 1) + q' : Nat) : Int)) = (BB p' q' n : Int)) (hn : n ≤ 60) (hp : p ≤ n) (hx : 1 ≤ x ∧ x ≤ n) (k : Q (zl (bxL (p : Int) ((x : Int) - 1) (n : Int))) σ) : WP m_Box_at 0 [zr 140, zi (p : Int), zi ((x : Int) - 1), zi (n : Int)] [] σ (0, 0) Q := by
  have hlt := box_lt (n := n) (p := p) (q := x - 1) hp (by omega)
  have hsq := sq_le hn
  have hv := hr p (x - 1) hp (by omega) (by omega)
  unfold bxL at k
  rw [if_neg (by omega), Int.toNat_natCast, Int.toNat_natCast, show ((x : Int) - 1).toNat = x - 1 by omega] at k
  have ep : min (p : Int) (n : Int) = (p : Int) := by omega
  have eq' : min ((x : Int) - 1) (n : Int) = ((x - 1 : Nat) : Int) := by omega
  have em : (p : Int) * ((n : Int) + 1) = ((p * (n + 1) : Nat) : Int) := by rw [Int.natCast_mul, Int.natCast_succ]
  refine r_Box_at_0 ?_
  simp only [hS, zrI, zrL, zrR, Shp_wI, Shp_wJ, zR_wI, zR_wJ, zJ_wI, zI_wJ, zobj_wI, zobj_wJ, zarr_wI, zarr_wJ, zS_wI, zS_wJ, o_2, a_3, a_4, a_5, o_10, a_11, a_12, o_137, o_138, a_139, o_140, a_141, o_142, a_143, o_146, a_147, a_148, a_149, o_152, a_153, o_154, a_157, o_158, a_159, r_2_0, r_2_1, r_2_2, r_2_3, r_2_4, r_2_5, r_2_6, r_2_7, r_2_8, r_2_9, r_2_10, r_10_0, r_10_1, r_137_0, r_137_1, r_137_2, r_138_0, r_140_0, r_142_0, r_146_0, r_146_1, r_146_2, r_146_3, r_152_0, r_154_0, r_154_1, r_158_0, zrI, zrL, zrR, ne_eq, true_and, and_true, true_or, or_true, not_true_eq_false, not_false_eq_true, false_and, and_false, forall_const, true_implies, false_implies, implies_true, reduceCtorEq, Int.reduceEq, Int.reduceNe, Int.reduceLT, Int.reduceLE, Int.reduceNeg, Nat.reduceEqDiff, if_true, if_false, reduceIte, Int.reduceMul, Int.reduceAdd, Int.reduceSub]
  repeat' first | omega | exact Or.inl (by omega) | apply And.intro | refine fun (_ : _ ≤ _) => ?_ | refine fun (_ : _ < _) => ?_ | refine fun (_ : _ = _) => ?_ | refine fun (_ : ¬ (_ = _)) => ?_ | refine fun (_ : _ ∨ _) => ?_
  refine t_firstOf (by omega) ?_
  simp only [zrI, zrL, zrR, ne_eq, true_and, and_true, true_or, or_true, not_true_eq_false, not_false_eq_true, false_and, and_false, forall_const, true_implies, false_implies, implies_true, reduceCtorEq, Int.reduceEq, Int.reduceNe, Int.reduceLT, Int.reduceLE, Int.reduceNeg, Nat.reduceEqDiff, if_true, if_false, reduceIte, Int.reduceMul, Int.reduceAdd, Int.reduceSub]
  refine t_min ?_
  simp only [ep, em, zrI, zrL, zrR, ne_eq, true_and, and_true, true_or, or_true, not_true_eq_false, not_false_eq_true, false_and, and_false, forall_const, true_implies, false_implies, implies_true, reduceCtorEq, Int.reduceEq, Int.reduceNe, Int.reduceLT, Int.reduceLE, Int.reduceNeg, Nat.reduceEqDiff, if_true, if_false, reduceIte, Int.reduceMul, Int.reduceAdd, Int.reduceSub]
  refine ⟨by omega, by omega, by omega, t_min ?_⟩
  simp only [hS, eq', zrI, zrL, zrR, Shp_wI, Shp_wJ, zR_wI, zR_wJ, zJ_wI, zI_wJ, zobj_wI, zobj_wJ, zarr_wI, zarr_wJ, zS_wI, zS_wJ, o_2, a_3, a_4, a_5, o_10, a_11, a_12, o_137, o_138, a_139, o_140, a_141, o_142, a_143, o_146, a_147, a_148, a_149, o_152, a_153, o_154, a_157, o_158, a_159, r_2_0, r_2_1, r_2_2, r_2_3, r_2_4, r_2_5, r_2_6, r_2_7, r_2_8, r_2_9, r_2_10, r_10_0, r_10_1, r_137_0, r_137_1, r_137_2, r_138_0, r_140_0, r_142_0, r_146_0, r_146_1, r_146_2, r_146_3, r_152_0, r_154_0, r_154_1, r_158_0, zrI, zrL, zrR, ne_eq, true_and, and_true, true_or, or_true, not_true_eq_false, not_false_eq_true, false_and, and_false, forall_const, true_implies, false_implies, implies_true, reduceCtorEq, Int.reduceEq, Int.reduceNe, Int.reduceLT, Int.reduceLE, Int.reduceNeg, Nat.reduceEqDiff, if_true, if_false, reduceIte, Int.reduceMul, Int.reduceAdd, Int.reduceSub]
  have e3 : (sq n : Int) + ((p * (n + 1) : Nat) : Int) + ((x - 1 : Nat) : Int) = (sq n : Int) + ((p * (n + 1) + (x - 1) : Nat) : Int) := by omega
  rw [e3, hv, Int64.ofInt_eq_ofNat]
  exact ⟨by omega, by omega, k⟩
theorem t_Box_fill {Q : ZQ} {σ : ZM} {n : Nat} (hS : Shp σ) (hB : BoxV σ ((n : Int) - 1)) (hn : n ≤ 60) (q : ∀ σ', BoxV σ' (n : Int) → Fr (fun a => a = 141) σ σ' → Q zu σ') : WP m_Box_fill 0 [zr 140, zi (n : Int), zu, zu, zu] [] σ (0, 0) Q := by
  have hsq := sq_le hn
  have wr : ∀ {τ : ZM} {p x : Nat} {v : Int}, p ≤ n → x ≤ n → BoxV τ ((n : Int) - 1) → (∀ p' q' : Nat, p' ≤ n → q' ≤ n → p' * (n + 1) + q' < p * (n + 1) + x → zI τ 141 ((sq n : Int) + ((p' * (n + 1) + q' : Nat) : Int)) = (BB p' q' n : Int)) → v = (BB p x n : Int) →
      BoxV (wI τ 141 ((sq n : Int) + ((p * (n + 1) + x : Nat) : Int)) v) ((n : Int) - 1) ∧ ∀ p' q' : Nat, p' ≤ n → q' ≤ n → p' * (n + 1) + q' < p * (n + 1) + x + 1 → zI (wI τ 141 ((sq n : Int) + ((p * (n + 1) + x : Nat) : Int)) v) 141 ((sq n : Int) + ((p' * (n + 1) + q' : Nat) : Int)) = (BB p' q' n : Int) := by
    intro τ p x v hp hx hb hr hv
    refine ⟨fun n' p' q' a1 a2 a3 a4 => ?_, fun p' q' a1 a2 a3 => ?_⟩
    · rw [zI_wI, if_neg]
      · exact hb n' p' q' a1 a2 a3 a4
      · rintro ⟨_, e⟩
        have h1 := sq_lt (show n' < n by omega)
        have h2 := box_lt a3 a4
        omega
    · rw [zI_wI]
      by_cases e : p' * (n + 1) + q' = p * (n + 1) + x
      · rw [if_pos ⟨rfl, by rw [e]⟩]
        obtain ⟨e1, e2⟩ := box_ix a2 hx e
        rw [e1, e2, hv]
      · rw [if_neg (by omega)]
        exact hr p' q' a1 a2 (by omega)
  have inner : ∀ (p : Nat), p ≤ n → (∀ (τ : ZM) (u : PV), BoxV τ ((n : Int) - 1) → (∀ p' q' : Nat, p' ≤ n → q' ≤ n → p' * (n + 1) + q' < (p + 1) * (n + 1) → zI τ 141 ((sq n : Int) + ((p' * (n + 1) + q' : Nat) : Int)) = (BB p' q' n : Int)) → Fr (fun a => a = 141) σ τ → WP m_Box_fill 7 [zr 140, zi (n : Int), zi ((sq n : Int) + (((p + 1) * (n + 1) : Nat) : Int)), zi ((p : Int) + 1), u] [] τ (0, 0) Q) →
      ∀ (m x : Nat) (τ : ZM), x + m = n + 1 → BoxV τ ((n : Int) - 1) → (∀ p' q' : Nat, p' ≤ n → q' ≤ n → p' * (n + 1) + q' < p * (n + 1) + x → zI τ 141 ((sq n : Int) + ((p' * (n + 1) + q' : Nat) : Int)) = (BB p' q' n : Int)) → Fr (fun a => a = 141) σ τ → WP m_Box_fill 15 [zr 140, zi (n : Int), zi ((sq n : Int) + ((p * (n + 1) + x : Nat) : Int)), zi (p : Int), zi (x : Int)] [] τ (0, 0) Q := by
    intro p hp next m
    induction m with
    | zero =>
      intro x τ hm hb hr f
      refine r_Box_fill_15 ?_
      simp only [f.shp hS, zrI, zrL, zrR, Shp_wI, Shp_wJ, zR_wI, zR_wJ, zJ_wI, zI_wJ, zobj_wI, zobj_wJ, zarr_wI, zarr_wJ, zS_wI, zS_wJ, o_2, a_3, a_4, a_5, o_10, a_11, a_12, o_137, o_138, a_139, o_140, a_141, o_142, a_143, o_146, a_147, a_148, a_149, o_152, a_153, o_154, a_157, o_158, a_159, r_2_0, r_2_1, r_2_2, r_2_3, r_2_4, r_2_5, r_2_6, r_2_7, r_2_8, r_2_9, r_2_10, r_10_0, r_10_1, r_137_0, r_137_1, r_137_2, r_138_0, r_140_0, r_142_0, r_146_0, r_146_1, r_146_2, r_146_3, r_152_0, r_154_0, r_154_1, r_158_0, zrI, zrL, zrR, ne_eq, true_and, and_true, true_or, or_true, not_true_eq_false, not_false_eq_true, false_and, and_false, forall_const, true_implies, false_implies, implies_true, reduceCtorEq, Int.reduceEq, Int.reduceNe, Int.reduceLT, Int.reduceLE, Int.reduceNeg, Nat.reduceEqDiff, if_true, if_false, reduceIte, Int.reduceMul, Int.reduceAdd, Int.reduceSub]
      repeat' first | omega | exact Or.inl (by omega) | apply And.intro | refine fun (_ : _ ≤ _) => ?_ | refine fun (_ : _ < _) => ?_ | refine fun (_ : _ = _) => ?_ | refine fun (_ : ¬ (_ = _)) => ?_ | refine fun (_ : _ ∨ _) => ?_
      have e : p * (n + 1) + x = (p + 1) * (n + 1) := by rw [Nat.add_mul p 1 (n + 1), Nat.one_mul]; omega
      rw [e] at hr ⊢
      exact next τ _ hb hr f
    | succ m ih =>
      intro x τ hm hb hr f
      have hS' := f.shp hS
      have hlt := box_lt (n := n) (p := p) (q := x) hp (by omega)
      have go : ∀ v : Int, v = (BB p x n : Int) → WP m_Box_fill 15 [zr 140, zi (n : Int), zi ((sq n : Int) + ((p * (n + 1) + x : Nat) : Int) + 1), zi (p : Int), zi ((x : Int) + 1)] [] (wI τ 141 ((sq n : Int) + ((p * (n + 1) + x : Nat) : Int)) v) (0, 0) Q := by
        intro v hv
        obtain ⟨w1, w2⟩ := wr hp (show x ≤ n by omega) hb hr hv
        have := ih (x + 1) _ (by omega) w1 w2 (f.tr (Fr.wI rfl))
        rw [show (sq n : Int) + ((p * (n + 1) + (x + 1) : Nat) : Int) = (sq n : Int) + ((p * (n + 1) + x : Nat) : Int) + 1 by omega, Int.natCast_succ] at this
        exact this
      refine r_Box_fill_15 ?_
      simp only [hS', zrI, zrL, zrR, Shp_wI, Shp_wJ, zR_wI, zR_wJ, zJ_wI, zI_wJ, zobj_wI, zobj_wJ, zarr_wI, zarr_wJ, zS_wI, zS_wJ, o_2, a_3, a_4, a_5, o_10, a_11, a_12, o_137, o_138, a_139, o_140, a_141, o_142, a_143, o_146, a_147, a_148, a_149, o_152, a_153, o_154, a_157, o_158, a_159, r_2_0, r_2_1, r_2_2, r_2_3, r_2_4, r_2_5, r_2_6, r_2_7, r_2_8, r_2_9, r_2_10, r_10_0, r_10_1, r_137_0, r_137_1, r_137_2, r_138_0, r_140_0, r_142_0, r_146_0, r_146_1, r_146_2, r_146_3, r_152_0, r_154_0, r_154_1, r_158_0, zrI, zrL, zrR, ne_eq, true_and, and_true, true_or, or_true, not_true_eq_false, not_false_eq_true, false_and, and_false, forall_const, true_implies, false_implies, implies_true, reduceCtorEq, Int.reduceEq, Int.reduceNe, Int.reduceLT, Int.reduceLE, Int.reduceNeg, Nat.reduceEqDiff, if_true, if_false, reduceIte, Int.reduceMul, Int.reduceAdd, Int.reduceSub]
      repeat' first | omega | exact Or.inl (by omega) | apply And.intro | refine fun (_ : _ ≤ _) => ?_ | refine fun (_ : _ < _) => ?_ | refine fun (_ : _ = _) => ?_ | refine fun (_ : ¬ (_ = _)) => ?_ | refine fun (_ : _ ∨ _) => ?_
      · refine go 0 ?_
        rw [show p = 0 by omega, BB_p0 (by omega)]; rfl
      · obtain ⟨p', rfl⟩ : ∃ p', p = p' + 1 := ⟨p - 1, by omega⟩
        obtain ⟨x', rfl⟩ : ∃ x', x = x' + 1 := ⟨x - 1, by omega⟩
        have hrec := BB_rec (p := p') (q := x') (n := n) (by omega)
        have hsm := BB_small (p := p' + 1) (q := x' + 1) (n := n) (by omega) hn
        have e1 : bxL ((p' + 1 : Nat) : Int) (((x' + 1 : Nat) : Int) - 1) (n : Int) = Int64.ofNat (BB (p' + 1) x' n) := by
          unfold bxL
          rw [if_neg (by omega), Int.toNat_natCast, Int.toNat_natCast, show (((x' + 1 : Nat) : Int) - 1).toNat = x' by omega]
        have e2 : bxL (((p' + 1 : Nat) : Int) - 1) ((x' + 1 : Nat) : Int) ((n : Int) - ((x' + 1 : Nat) : Int)) = Int64.ofNat (if x' + 1 ≤ n then BB p' (x' + 1) (n - (x' + 1)) else 0) := by
          unfold bxL
          rw [if_neg (by omega), if_pos (by omega), Int.toNat_natCast, show (((p' + 1 : Nat) : Int) - 1).toNat = p' by omega, show ((n : Int) - ((x' + 1 : Nat) : Int)).toNat = n - (x' + 1) by omega]
        refine t_Box_row hS' hb hr hn hp (by omega) ?_
        rw [e1]
        simp only [hS', zrI, zrL, zrR, Shp_wI, Shp_wJ, zR_wI, zR_wJ, zJ_wI, zI_wJ, zobj_wI, zobj_wJ, zarr_wI, zarr_wJ, zS_wI, zS_wJ, o_2, a_3, a_4, a_5, o_10, a_11, a_12, o_137, o_138, a_139, o_140, a_141, o_142, a_143, o_146, a_147, a_148, a_149, o_152, a_153, o_154, a_157, o_158, a_159, r_2_0, r_2_1, r_2_2, r_2_3, r_2_4, r_2_5, r_2_6, r_2_7, r_2_8, r_2_9, r_2_10, r_10_0, r_10_1, r_137_0, r_137_1, r_137_2, r_138_0, r_140_0, r_142_0, r_146_0, r_146_1, r_146_2, r_146_3, r_152_0, r_154_0, r_154_1, r_158_0, zrI, zrL, zrR, ne_eq, true_and, and_true, true_or, or_true, not_true_eq_false, not_false_eq_true, false_and, and_false, forall_const, true_implies, false_implies, implies_true, reduceCtorEq, Int.reduceEq, Int.reduceNe, Int.reduceLT, Int.reduceLE, Int.reduceNeg, Nat.reduceEqDiff, if_true, if_false, reduceIte, Int.reduceMul, Int.reduceAdd, Int.reduceSub]
        repeat' first | omega | exact Or.inl (by omega) | apply And.intro | refine fun (_ : _ ≤ _) => ?_ | refine fun (_ : _ < _) => ?_ | refine fun (_ : _ = _) => ?_ | refine fun (_ : ¬ (_ = _)) => ?_ | refine fun (_ : _ ∨ _) => ?_
        refine t_Box_at hS' hb (by omega) (by omega) ?_
        rw [e2]
        simp only [hS', zrI, zrL, zrR, Shp_wI, Shp_wJ, zR_wI, zR_wJ, zJ_wI, zI_wJ, zobj_wI, zobj_wJ, zarr_wI, zarr_wJ, zS_wI, zS_wJ, o_2, a_3, a_4, a_5, o_10, a_11, a_12, o_137, o_138, a_139, o_140, a_141, o_142, a_143, o_146, a_147, a_148, a_149, o_152, a_153, o_154, a_157, o_158, a_159, r_2_0, r_2_1, r_2_2, r_2_3, r_2_4, r_2_5, r_2_6, r_2_7, r_2_8, r_2_9, r_2_10, r_10_0, r_10_1, r_137_0, r_137_1, r_137_2, r_138_0, r_140_0, r_142_0, r_146_0, r_146_1, r_146_2, r_146_3, r_152_0, r_154_0, r_154_1, r_158_0, zrI, zrL, zrR, ne_eq, true_and, and_true, true_or, or_true, not_true_eq_false, not_false_eq_true, false_and, and_false, forall_const, true_implies, false_implies, implies_true, reduceCtorEq, Int.reduceEq, Int.reduceNe, Int.reduceLT, Int.reduceLE, Int.reduceNeg, Nat.reduceEqDiff, if_true, if_false, reduceIte, Int.reduceMul, Int.reduceAdd, Int.reduceSub]
        repeat' first | omega | exact Or.inl (by omega) | apply And.intro | refine fun (_ : _ ≤ _) => ?_ | refine fun (_ : _ < _) => ?_ | refine fun (_ : _ = _) => ?_ | refine fun (_ : ¬ (_ = _)) => ?_ | refine fun (_ : _ ∨ _) => ?_
        rw [← Int64.ofNat_add, ← hrec, to32 hsm]
        exact go _ rfl
      · refine go 0 ?_
        rw [show x = 0 by omega, BB_q0 (by omega)]; rfl
      · refine go 1 ?_
        rw [show n = 0 by omega, BB_n0]; rfl
  have outer : ∀ (m p : Nat) (τ : ZM) (u : PV), p + m = n + 1 → BoxV τ ((n : Int) - 1) → (∀ p' q' : Nat, p' ≤ n → q' ≤ n → p' * (n + 1) + q' < p * (n + 1) → zI τ 141 ((sq n : Int) + ((p' * (n + 1) + q' : Nat) : Int)) = (BB p' q' n : Int)) → Fr (fun a => a = 141) σ τ → WP m_Box_fill 7 [zr 140, zi (n : Int), zi ((sq n : Int) + ((p * (n + 1) : Nat) : Int)), zi (p : Int), u] [] τ (0, 0) Q := by
    intro m
    induction m with
    | zero =>
      intro p τ u hm hb hr f
      refine r_Box_fill_7 ?_
      repeat' first | omega | exact Or.inl (by omega) | apply And.intro | refine fun (_ : _ ≤ _) => ?_ | refine fun (_ : _ < _) => ?_ | refine fun (_ : _ = _) => ?_ | refine fun (_ : ¬ (_ = _)) => ?_ | refine fun (_ : _ ∨ _) => ?_
      refine q τ (fun n' p' q' a1 a2 a3 a4 => ?_) f
      by_cases e : n' = n
      · subst e
        refine hr p' q' a3 a4 ?_
        rw [show p = n' + 1 by omega]
        exact box_lt a3 a4
      · exact hb n' p' q' (by omega) a2 a3 a4
    | succ m ih =>
      intro p τ u hm hb hr f
      refine r_Box_fill_7 ?_
      repeat' first | omega | exact Or.inl (by omega) | apply And.intro | refine fun (_ : _ ≤ _) => ?_ | refine fun (_ : _ < _) => ?_ | refine fun (_ : _ = _) => ?_ | refine fun (_ : ¬ (_ = _)) => ?_ | refine fun (_ : _ ∨ _) => ?_
      have := inner p (by omega) (fun τ' u' h1 h2 h3 => by
        have := ih (p + 1) τ' u' (by omega) h1 h2 h3
        rw [Int.natCast_succ] at this
        exact this) (n + 1) 0 τ (by omega) hb hr f
      exact this
  refine r_Box_fill_0 (t_firstOf hn ?_)
  simp only [zrI, zrL, zrR, ne_eq, true_and, and_true, true_or, or_true, not_true_eq_false, not_false_eq_true, false_and, and_false, forall_const, true_implies, false_implies, implies_true, reduceCtorEq, Int.reduceEq, Int.reduceNe, Int.reduceLT, Int.reduceLE, Int.reduceNeg, Nat.reduceEqDiff, if_true, if_false, reduceIte, Int.reduceMul, Int.reduceAdd, Int.reduceSub]
  have := outer (n + 1) 0 σ zu (by omega) hB (fun p' q' _ _ h => by omega) Fr.rf
  rw [show ((0 * (n + 1) : Nat) : Int) = 0 by simp, Int.add_zero] at this
  exact this
/-- the box, as far as it is filled -/
def BoxI (σ : ZM) : Prop := -1 ≤ zI σ 140 1 ∧ zI σ 140 1 ≤ 60 ∧ BoxV σ (zI σ 140 1)
abbrev bxf (a : Nat) (j : Int) : Prop := a = 141 ∨ (a = 140 ∧ j = 1)
theorem BoxV.same {σ σ' : ZM} {f : Int} (h : BoxV σ f) (e : ∀ j, zI σ' 141 j = zI σ 141 j) : BoxV σ' f := fun n p q a b c d => by rw [e]; exact h n p q a b c d
theorem t_Box_prepare {Q : ZQ} {σ : ZM} {n : Int} (hS : Shp σ) (hB : BoxI σ) (n0 : 0 ≤ n) (n6 : n ≤ 60) (q : ∀ σ', BoxI σ' → (∃ f, n ≤ f ∧ BoxV σ' f) → Fz bxf σ σ' → Q zu σ') : WP m_Box_prepare 0 [zr 140, zi n, zu] [] σ (0, 0) Q := by
  have key : ∀ (m : Nat) (x : Int) (τ : ZM), 0 ≤ x → x ≤ 61 → n + 1 ≤ x + m → zI τ 140 1 = x - 1 → BoxV τ (x - 1) → Fz bxf σ τ → WP m_Box_prepare 7 [zr 140, zi n, zi x] [] τ (0, 0) Q := by
    intro m
    induction m with
    | zero =>
      intro x τ x0 x6 hm e1 hv f
      refine r_Box_prepare_7 ?_
      simp only [f.shp hS, zrI, zrL, zrR, Shp_wI, Shp_wJ, zR_wI, zR_wJ, zJ_wI, zI_wJ, zobj_wI, zobj_wJ, zarr_wI, zarr_wJ, zS_wI, zS_wJ, o_2, a_3, a_4, a_5, o_10, a_11, a_12, o_137, o_138, a_139, o_140, a_141, o_142, a_143, o_146, a_147, a_148, a_149, o_152, a_153, o_154, a_157, o_158, a_159, r_2_0, r_2_1, r_2_2, r_2_3, r_2_4, r_2_5, r_2_6, r_2_7, r_2_8, r_2_9, r_2_10, r_10_0, r_10_1, r_137_0, r_137_1, r_137_2, r_138_0, r_140_0, r_142_0, r_146_0, r_146_1, r_146_2, r_146_3, r_152_0, r_154_0, r_154_1, r_158_0, zrI, zrL, zrR, ne_eq, true_and, and_true, true_or, or_true, not_true_eq_false, not_false_eq_true, false_and, and_false, forall_const, true_implies, false_implies, implies_true, reduceCtorEq, Int.reduceEq, Int.reduceNe, Int.reduceLT, Int.reduceLE, Int.reduceNeg, Nat.reduceEqDiff, if_true, if_false, reduceIte, Int.reduceMul, Int.reduceAdd, Int.reduceSub]
      repeat' first | omega | exact Or.inl (by omega) | apply And.intro | refine fun (_ : _ ≤ _) => ?_ | refine fun (_ : _ < _) => ?_ | refine fun (_ : _ = _) => ?_ | refine fun (_ : ¬ (_ = _)) => ?_ | refine fun (_ : _ ∨ _) => ?_
      exact q τ ⟨by omega, by omega, by rw [e1]; exact hv⟩ ⟨x - 1, by omega, hv⟩ f
    | succ m ih =>
      intro x τ x0 x6 hm e1 hv f
      have hS' := f.shp hS
      refine r_Box_prepare_7 ?_
      simp only [hS', zrI, zrL, zrR, Shp_wI, Shp_wJ, zR_wI, zR_wJ, zJ_wI, zI_wJ, zobj_wI, zobj_wJ, zarr_wI, zarr_wJ, zS_wI, zS_wJ, o_2, a_3, a_4, a_5, o_10, a_11, a_12, o_137, o_138, a_139, o_140, a_141, o_142, a_143, o_146, a_147, a_148, a_149, o_152, a_153, o_154, a_157, o_158, a_159, r_2_0, r_2_1, r_2_2, r_2_3, r_2_4, r_2_5, r_2_6, r_2_7, r_2_8, r_2_9, r_2_10, r_10_0, r_10_1, r_137_0, r_137_1, r_137_2, r_138_0, r_140_0, r_142_0, r_146_0, r_146_1, r_146_2, r_146_3, r_152_0, r_154_0, r_154_1, r_158_0, zrI, zrL, zrR, ne_eq, true_and, and_true, true_or, or_true, not_true_eq_false, not_false_eq_true, false_and, and_false, forall_const, true_implies, false_implies, implies_true, reduceCtorEq, Int.reduceEq, Int.reduceNe, Int.reduceLT, Int.reduceLE, Int.reduceNeg, Nat.reduceEqDiff, if_true, if_false, reduceIte, Int.reduceMul, Int.reduceAdd, Int.reduceSub]
      repeat' first | omega | exact Or.inl (by omega) | apply And.intro | refine fun (_ : _ ≤ _) => ?_ | refine fun (_ : _ < _) => ?_ | refine fun (_ : _ = _) => ?_ | refine fun (_ : ¬ (_ = _)) => ?_ | refine fun (_ : _ ∨ _) => ?_
      · exact q τ ⟨by omega, by omega, by rw [e1]; exact hv⟩ ⟨x - 1, by omega, hv⟩ f
      · obtain ⟨j, rfl⟩ := Int.eq_ofNat_of_zero_le x0
        refine t_Box_fill hS' hv (by omega) (fun υ k1 k2 => ?_)
        have f2 : Fz bxf τ υ := k2.z (fun a j w => by omega)
        simp only [k2.shp hS', zrI, zrL, zrR, Shp_wI, Shp_wJ, zR_wI, zR_wJ, zJ_wI, zI_wJ, zobj_wI, zobj_wJ, zarr_wI, zarr_wJ, zS_wI, zS_wJ, o_2, a_3, a_4, a_5, o_10, a_11, a_12, o_137, o_138, a_139, o_140, a_141, o_142, a_143, o_146, a_147, a_148, a_149, o_152, a_153, o_154, a_157, o_158, a_159, r_2_0, r_2_1, r_2_2, r_2_3, r_2_4, r_2_5, r_2_6, r_2_7, r_2_8, r_2_9, r_2_10, r_10_0, r_10_1, r_137_0, r_137_1, r_137_2, r_138_0, r_140_0, r_142_0, r_146_0, r_146_1, r_146_2, r_146_3, r_152_0, r_154_0, r_154_1, r_158_0, zrI, zrL, zrR, ne_eq, true_and, and_true, true_or, or_true, not_true_eq_false, not_false_eq_true, false_and, and_false, forall_const, true_implies, false_implies, implies_true, reduceCtorEq, Int.reduceEq, Int.reduceNe, Int.reduceLT, Int.reduceLE, Int.reduceNeg, Nat.reduceEqDiff, if_true, if_false, reduceIte, Int.reduceMul, Int.reduceAdd, Int.reduceSub]
        repeat' first | omega | exact Or.inl (by omega) | apply And.intro | refine fun (_ : _ ≤ _) => ?_ | refine fun (_ : _ < _) => ?_ | refine fun (_ : _ = _) => ?_ | refine fun (_ : ¬ (_ = _)) => ?_ | refine fun (_ : _ ∨ _) => ?_
        refine ih ((j : Int) + 1) _ (by omega) (by omega) (by omega) ?_ ?_ ((f.tr f2).tr (Fz.wI (by omega)))
        · rw [zI_wI, if_pos ⟨rfl, rfl⟩]; omega
        · rw [show (j : Int) + 1 - 1 = j by omega]
          exact k1.same (fun i => by rw [zI_wI, if_neg (by omega)])
  obtain ⟨t1, t2, t3⟩ := hB
  refine r_Box_prepare_0 ?_
  simp only [hS, zrI, zrL, zrR, Shp_wI, Shp_wJ, zR_wI, zR_wJ, zJ_wI, zI_wJ, zobj_wI, zobj_wJ, zarr_wI, zarr_wJ, zS_wI, zS_wJ, o_2, a_3, a_4, a_5, o_10, a_11, a_12, o_137, o_138, a_139, o_140, a_141, o_142, a_143, o_146, a_147, a_148, a_149, o_152, a_153, o_154, a_157, o_158, a_159, r_2_0, r_2_1, r_2_2, r_2_3, r_2_4, r_2_5, r_2_6, r_2_7, r_2_8, r_2_9, r_2_10, r_10_0, r_10_1, r_137_0, r_137_1, r_137_2, r_138_0, r_140_0, r_142_0, r_146_0, r_146_1, r_146_2, r_146_3, r_152_0, r_154_0, r_154_1, r_158_0, zrI, zrL, zrR, ne_eq, true_and, and_true, true_or, or_true, not_true_eq_false, not_false_eq_true, false_and, and_false, forall_const, true_implies, false_implies, implies_true, reduceCtorEq, Int.reduceEq, Int.reduceNe, Int.reduceLT, Int.reduceLE, Int.reduceNeg, Nat.reduceEqDiff, if_true, if_false, reduceIte, Int.reduceMul, Int.reduceAdd, Int.reduceSub]
  refine ⟨by omega, key (n + 1).toNat _ σ (by omega) (by omega) (by omega) (by omega) ?_ Fz.rf⟩
  rw [show zI σ 140 1 + 1 - 1 = zI σ 140 1 by omega]
  exact t3
