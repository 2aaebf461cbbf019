/-! next, of both -/
theorem fil_nonpos {v : Int} {k : Nat} {n : Int} (h : n ≤ 0) : fil v k n = [] := by
  cases k with
  | zero => rfl
  | succ k => unfold fil; rw [if_pos h]
theorem fil_fuel {v : Int} (hv : 1 ≤ v) : ∀ (k k' : Nat) (n : Int), n ≤ k → n ≤ k' → fil v k n = fil v k' n
  | 0, k', n, h, h' => by rw [fil_nonpos (by omega), fil_nonpos (by omega)]
  | k + 1, 0, n, h, h' => by rw [fil_nonpos (by omega), fil_nonpos (by omega)]
  | k + 1, k' + 1, n, h, h' => by
    unfold fil
    split
    · rfl
    · rw [fil_fuel hv k k' (n - v) (by omega) (by omega)]
theorem Pt_fil {v : Int} (hv : 1 ≤ v) : ∀ (k : Nat) (n : Int) (acc : List Int), Pt acc → (acc.length = 0 ∨ v ≤ ga acc ((acc.length : Int) - 1)) → acc.sum + n ≤ 400 → Pt (acc ++ fil v k n)
  | 0, n, acc, hp, _, _ => by
    show Pt (acc ++ [])
    rw [List.append_nil]
    exact hp
  | k + 1, n, acc, hp, hl, hs => by
    unfold fil
    by_cases c : n ≤ 0
    · rw [if_pos c, List.append_nil]
      exact hp
    · rw [if_neg c]
      have h1 : Pt (acc ++ [min v n]) := Pt_snoc hp (by omega) (by omega) (by omega)
      have e : acc ++ min v n :: fil v k (n - v) = acc ++ [min v n] ++ fil v k (n - v) := by simp
      rw [e]
      by_cases c2 : n ≤ v
      · rw [fil_nonpos (by omega), List.append_nil]
        exact h1
      · refine Pt_fil hv k (n - v) (acc ++ [min v n]) h1 (Or.inr ?_) (by simp; omega)
        rw [ga_app, if_pos (by simp)]
        omega
theorem Pt_take {l : List Int} (hp : Pt l) (n : Nat) : Pt (l.take n) := by
  refine ⟨fun x hx => hp.1 x (List.mem_of_mem_take hx), ?_, fun i j i0 ij => ?_⟩
  · have := sum_take l n hp.1
    have := hp.2.1
    omega
  · rw [ga_take, ga_take]
    have h1 := hp.2.2 i j i0 ij
    have h2 := hp.rng i
    by_cases c : j < (n : Int)
    · rw [if_pos c, if_pos (by omega)]
      exact h1
    · rw [if_neg c]
      split <;> omega
theorem sum_ones {l : List Int} : ∀ (m j : Nat), j + m = l.length → (∀ k : Int, (j : Int) ≤ k → k < (l.length : Int) → ga l k = 1) → l.sum = (l.take j).sum + m
  | 0, j, h, _ => by
    rw [show j = l.length by omega, List.take_length]
    simp
  | m + 1, j, h, hk => by
    have ih := sum_ones m (j + 1) (by omega) (fun k k0 k1 => hk k (by omega) k1)
    have e := take_snoc (l := l) (i := (j : Int)) (by omega) (by omega)
    rw [show ((j : Int) + 1).toNat = j + 1 by omega, Int.toNat_natCast, hk j (by omega) (by omega)] at e
    rw [e] at ih
    have e2 : (l.take j ++ [1]).sum = (l.take j).sum + 1 := by simp
    rw [e2] at ih
    rw [Int.natCast_succ]
    omega
/-- the last part above 1 is at i -/
def isNx (l : List Int) (i : Int) : Prop := 0 ≤ i ∧ i < (l.length : Int) ∧ (∀ k, i < k → k < (l.length : Int) → ga l k = 1) ∧ 2 ≤ ga l i
theorem isNx.uniq {l : List Int} {i j : Int} (h : isNx l i) (h' : isNx l j) : i = j := by
  obtain ⟨a1, a2, a3, a4⟩ := h
  obtain ⟨b1, b2, b3, b4⟩ := h'
  rcases Int.lt_trichotomy i j with e | e | e
  · have := a3 j e b2
    omega
  · exact e
  · have := b3 i e a2
    omega
def nxL (l : List Int) (i : Int) : List Int := l.take i.toNat ++ fil (ga l i - 1) 400 (l.sum - (l.take i.toNat).sum)
theorem isNx.sum {l : List Int} {i : Int} (h : isNx l i) : l.sum - (l.take i.toNat).sum = ga l i + ((l.length : Int) - 1 - i) := by
  obtain ⟨a1, a2, a3, a4⟩ := h
  have h1 := sum_ones (l := l) (l.length - 1 - i.toNat) (i.toNat + 1) (by omega) (fun k k0 k1 => a3 k (by omega) k1)
  have e := take_snoc (l := l) (i := i) a1 a2
  rw [show (i + 1).toNat = i.toNat + 1 by omega] at e
  rw [e] at h1
  have e2 : (l.take i.toNat ++ [ga l i]).sum = (l.take i.toNat).sum + ga l i := by simp
  rw [e2] at h1
  omega
theorem nxL_eq {l : List Int} {i : Int} (h : isNx l i) (hp : Pt l) : nxL l i = l.take i.toNat ++ [ga l i - 1] ++ fil (ga l i - 1) 400 ((l.length : Int) - i) := by
  have hs := h.sum
  have hr := hp.rng i
  have hlen := hp.len
  obtain ⟨a1, a2, a3, a4⟩ := h
  unfold nxL
  have e : fil (ga l i - 1) 400 (l.sum - (l.take i.toNat).sum) = (ga l i - 1) :: fil (ga l i - 1) 399 ((l.length : Int) - i) := by
    rw [hs]
    show (if ga l i + ((l.length : Int) - 1 - i) ≤ 0 then [] else min (ga l i - 1) (ga l i + ((l.length : Int) - 1 - i)) :: fil (ga l i - 1) 399 (ga l i + ((l.length : Int) - 1 - i) - (ga l i - 1))) = _
    rw [if_neg (by omega), show min (ga l i - 1) (ga l i + ((l.length : Int) - 1 - i)) = ga l i - 1 by omega, show ga l i + ((l.length : Int) - 1 - i) - (ga l i - 1) = (l.length : Int) - i by omega]
  have h5 : (l.length : Int) - i ≤ 399 := by
    have h6 := hp.2.1
    have h7 := sum_take l i.toNat hp.1
    have h8 := sum_pos (l.take i.toNat) (fun x hx => hp.1 x (List.mem_of_mem_take hx))
    omega
  rw [e, fil_fuel (by omega) 399 400 _ (by omega) (by omega)]
  simp
theorem Pt_nxL {l : List Int} {i : Int} (h : isNx l i) (hp : Pt l) : Pt (nxL l i) := by
  have hs := h.sum
  have h4 := hp.2.1
  obtain ⟨a1, a2, a3, a4⟩ := h
  refine Pt_fil (by omega) 400 _ _ (Pt_take hp _) ?_ (by omega)
  have hl : (l.take i.toNat).length = i.toNat := by rw [List.length_take]; omega
  by_cases c : i = 0
  · left; omega
  · right
    rw [hl, ga_take, if_pos (by omega)]
    have := hp.2.2 ((i.toNat : Int) - 1) i (by omega) (by omega)
    omega
theorem t_next {Q : ZQ} {σ : ZM} {N : List (Int × List Int)} {S : Int → List Int} {s : Int} (h : AI σ S N)
    (q0 : (s < 0 ∨ 7 < s) → Q (zi (-2)) σ) (q2 : 0 ≤ s → s ≤ 7 → ga (S s) 0 ≤ 1 → Q (zi 0) σ)
    (q1 : 0 ≤ s → s ≤ 7 → ∀ i, isNx (S s) i → ∀ σ', AI σ' (upS S s (nxL (S s) i)) (actN S N s) → Fr acf σ σ' → Q (zi 1) σ') : WP m_PP_next 0 [zr 2, zi s] [] σ (0, 0) Q := by
  refine r_PP_next_0 (t_isSheet (fun s0 s1 => ?_) (fun c => ?_))
  · have hS := h.1
    have r3 : zR σ 3 s = 160 + 2 * s.toNat := h.1.2.2 3 s (by unfold rfx; omega)
    obtain ⟨hp, hl⟩ := h.2.2 s s0 s1
    have os := h.1.sumO (isS_sheet s0 s1)
    simp only [hS, r3, os.1, zrI, zrL, zrR, Shp_wI, Shp_wJ, zR_wI, zR_wJ, zJ_wI, zI_wJ, zobj_wI, zobj_wJ, zarr_wI, zarr_wJ, zS_wI, zS_wJ, o_2, a_3, a_4, a_5, o_10, a_11, a_12, o_137, o_138, a_139, o_140, a_141, o_142, a_143, o_146, a_147, a_148, a_149, o_152, a_153, o_154, a_157, o_158, a_159, r_2_0, r_2_1, r_2_2, r_2_3, r_2_4, r_2_5, r_2_6, r_2_7, r_2_8, r_2_9, r_2_10, r_10_0, r_10_1, r_137_0, r_137_1, r_137_2, r_138_0, r_140_0, r_142_0, r_146_0, r_146_1, r_146_2, r_146_3, r_152_0, r_154_0, r_154_1, r_158_0, zrI, zrL, zrR, ne_eq, true_and, and_true, true_or, or_true, not_true_eq_false, not_false_eq_true, false_and, and_false, forall_const, true_implies, false_implies, implies_true, reduceCtorEq, Int.reduceEq, Int.reduceNe, Int.reduceLT, Int.reduceLE, Int.reduceNeg, Nat.reduceEqDiff, if_true, if_false, reduceIte, Int.reduceMul, Int.reduceAdd, Int.reduceSub]
    refine ⟨Or.inl ⟨by omega, by omega⟩, t_Sum_at os hl ?_⟩
    simp only [hS, r3, os.1, (hS.sumO isS_133).1, zrI, zrL, zrR, Shp_wI, Shp_wJ, zR_wI, zR_wJ, zJ_wI, zI_wJ, zobj_wI, zobj_wJ, zarr_wI, zarr_wJ, zS_wI, zS_wJ, o_2, a_3, a_4, a_5, o_10, a_11, a_12, o_137, o_138, a_139, o_140, a_141, o_142, a_143, o_146, a_147, a_148, a_149, o_152, a_153, o_154, a_157, o_158, a_159, r_2_0, r_2_1, r_2_2, r_2_3, r_2_4, r_2_5, r_2_6, r_2_7, r_2_8, r_2_9, r_2_10, r_10_0, r_10_1, r_137_0, r_137_1, r_137_2, r_138_0, r_140_0, r_142_0, r_146_0, r_146_1, r_146_2, r_146_3, r_152_0, r_154_0, r_154_1, r_158_0, zrI, zrL, zrR, ne_eq, true_and, and_true, true_or, or_true, not_true_eq_false, not_false_eq_true, false_and, and_false, forall_const, true_implies, false_implies, implies_true, reduceCtorEq, Int.reduceEq, Int.reduceNe, Int.reduceLT, Int.reduceLE, Int.reduceNeg, Nat.reduceEqDiff, if_true, if_false, reduceIte, Int.reduceMul, Int.reduceAdd, Int.reduceSub]
    refine ⟨fun c => ⟨Or.inl ⟨by omega, by omega⟩, ?_⟩, fun c => q2 s0 s1 c⟩
    have hlen := hp.len
    have hne : 1 ≤ (S s).length := by
      rcases Nat.lt_or_ge 0 (S s).length with w | w
      · exact w
      · rw [ga_out (by omega)] at c; omega
    refine t_Sum_follow (isS_apart isS_133 (isS_sheet s0 s1) (by omega)) hp hne (hS.sumO isS_133) os hl (fun τ i i0 i1 hb hc k1 k2 => ?_)
    have hnx : isNx (S s) i := ⟨i0, i1, hb, by
      have := hp.pos i0 i1
      rcases hc with e | e
      · rw [e]; omega
      · omega⟩
    have hT := k2.shp hS
    simp only [hT, zrI, zrL, zrR, Shp_wI, Shp_wJ, zR_wI, zR_wJ, zJ_wI, zI_wJ, zobj_wI, zobj_wJ, zarr_wI, zarr_wJ, zS_wI, zS_wJ, o_2, a_3, a_4, a_5, o_10, a_11, a_12, o_137, o_138, a_139, o_140, a_141, o_142, a_143, o_146, a_147, a_148, a_149, o_152, a_153, o_154, a_157, o_158, a_159, r_2_0, r_2_1, r_2_2, r_2_3, r_2_4, r_2_5, r_2_6, r_2_7, r_2_8, r_2_9, r_2_10, r_10_0, r_10_1, r_137_0, r_137_1, r_137_2, r_138_0, r_140_0, r_142_0, r_146_0, r_146_1, r_146_2, r_146_3, r_152_0, r_154_0, r_154_1, r_158_0, zrI, zrL, zrR, ne_eq, true_and, and_true, true_or, or_true, not_true_eq_false, not_false_eq_true, false_and, and_false, forall_const, true_implies, false_implies, implies_true, reduceCtorEq, Int.reduceEq, Int.reduceNe, Int.reduceLT, Int.reduceLE, Int.reduceNeg, Nat.reduceEqDiff, if_true, if_false, reduceIte, Int.reduceMul, Int.reduceAdd, Int.reduceSub]
    rw [show max 1 (ga (S s) i - 1) = ga (S s) i - 1 by have := hnx.2.2.2; omega] at k1
    refine t_put (h.moved k2) s0 s1 (Pt_nxL hnx hp) k1 (fun υ j1 j2 => ?_)
    exact q1 s0 s1 i hnx υ j1 ((k2.mono (fun a w => by omega)).tr j2)
  · simp only [zrI, zrL, zrR, ne_eq, true_and, and_true, true_or, or_true, not_true_eq_false, not_false_eq_true, false_and, and_false, forall_const, true_implies, false_implies, implies_true, reduceCtorEq, Int.reduceEq, Int.reduceNe, Int.reduceLT, Int.reduceLE, Int.reduceNeg, Nat.reduceEqDiff, if_true, if_false, reduceIte, Int.reduceMul, Int.reduceAdd, Int.reduceSub]
    exact q0 c
theorem upS_same {S : Int → List Int} {s : Int} {l : List Int} : upS S s l s = l := if_pos rfl
theorem upS_up {S : Int → List Int} {s : Int} {l l' : List Int} : upS (upS S s l) s l' = upS S s l' := by
  funext t
  unfold upS
  split <;> rfl
theorem t_mPush' {Q : ZQ} {σ : ZM} {M : Int → List Int} {s v : Int} {acc : List Int} (hS : Shp σ) (m : MS σ (upS M s acc)) (s0 : 0 ≤ s) (s1 : s ≤ 10) (hn : acc.length < 400) (q : ∀ σ', MS σ' (upS M s (acc ++ [v])) → Fr mfr σ σ' → Q zu σ') : WP m_Mod_push 0 [zr 192, zi s, zi v] [] σ (0, 0) Q := by
  refine t_mPush hS m s0 s1 (by rw [upS_same]; exact hn) (fun σ' k1 k2 => q σ' ?_ k2)
  rw [upS_same, upS_up] at k1
  exact k1
theorem t_mNext_85 {Q : ZQ} {M : Int → List Int} {s v : Int} (s0 : 0 ≤ s) (s1 : s ≤ 10) (hv : 1 ≤ v) (hv4 : v ≤ 400) : ∀ (k : Nat) (n : Int) (acc : List Int) (u1 u2 u3 : PV) (σ : ZM), n ≤ k → -400 ≤ n → n ≤ 400 → (acc.length : Int) + n ≤ 400 → acc.length ≤ 400 → Shp σ → MS σ (upS M s acc) → (∀ σ', MS σ' (upS M s (acc ++ fil v k n)) → Fr mfr σ σ' → Q (zi 1) σ') → WP m_Mod_next 85 [zr 192, zi s, u1, u2, zi v, zi n, u3] [] σ (0, 0) Q
  | 0, n, acc, u1, u2, u3, σ, hk, hn, hn4, h1, h1', hS, m, q => by
    refine r_Mod_next_85 ?_
    simp only [hS, zrI, zrL, zrR, Shp_wI, Shp_wJ, zR_wI, zR_wJ, zJ_wI, zI_wJ, zobj_wI, zobj_wJ, zarr_wI, zarr_wJ, zS_wI, zS_wJ, o_192, a_193, a_194, a_195, a_196, a_197, a_198, a_199, a_200, a_201, a_202, a_203, a_204, a_205, a_206, a_207, a_208, a_209, a_210, r_192_0, r_192_1, r_192_2, r_192_3, r_192_4, r_192_5, r_192_7, r_192_8, r_192_14, r_192_16, r_192_17, r_192_18, r_192_19, r_192_20, r_192_22, r_192_23, r_192_25, r_192_26, zrI, zrL, zrR, ne_eq, true_and, and_true, true_or, or_true, not_true_eq_false, not_false_eq_true, false_and, and_false, forall_const, true_implies, false_implies, implies_true, reduceCtorEq, Int.reduceEq, Int.reduceNe, Int.reduceLT, Int.reduceLE, Int.reduceNeg, Nat.reduceEqDiff, if_true, if_false, reduceIte, Int.reduceMul, Int.reduceAdd, Int.reduceSub]
    repeat' first | omega | exact Or.inl (by omega) | apply And.intro | refine fun (_ : _ ≤ _) => ?_ | refine fun (_ : _ < _) => ?_ | refine fun (_ : _ = _) => ?_ | refine fun (_ : ¬ (_ = _)) => ?_ | refine fun (_ : _ ∨ _) => ?_
    refine q σ ?_ Fr.rf
    rw [fil_nonpos (by omega), List.append_nil]
    exact m
  | k + 1, n, acc, u1, u2, u3, σ, hk, hn, hn4, h1, h1', hS, m, q => by
    refine r_Mod_next_85 ?_
    simp only [hS, zrI, zrL, zrR, Shp_wI, Shp_wJ, zR_wI, zR_wJ, zJ_wI, zI_wJ, zobj_wI, zobj_wJ, zarr_wI, zarr_wJ, zS_wI, zS_wJ, o_192, a_193, a_194, a_195, a_196, a_197, a_198, a_199, a_200, a_201, a_202, a_203, a_204, a_205, a_206, a_207, a_208, a_209, a_210, r_192_0, r_192_1, r_192_2, r_192_3, r_192_4, r_192_5, r_192_7, r_192_8, r_192_14, r_192_16, r_192_17, r_192_18, r_192_19, r_192_20, r_192_22, r_192_23, r_192_25, r_192_26, zrI, zrL, zrR, ne_eq, true_and, and_true, true_or, or_true, not_true_eq_false, not_false_eq_true, false_and, and_false, forall_const, true_implies, false_implies, implies_true, reduceCtorEq, Int.reduceEq, Int.reduceNe, Int.reduceLT, Int.reduceLE, Int.reduceNeg, Nat.reduceEqDiff, if_true, if_false, reduceIte, Int.reduceMul, Int.reduceAdd, Int.reduceSub]
    repeat' first | omega | exact Or.inl (by omega) | apply And.intro | refine fun (_ : _ ≤ _) => ?_ | refine fun (_ : _ < _) => ?_ | refine fun (_ : _ = _) => ?_ | refine fun (_ : ¬ (_ = _)) => ?_ | refine fun (_ : _ ∨ _) => ?_
    · refine q σ ?_ Fr.rf
      rw [fil_nonpos (by omega), List.append_nil]
      exact m
    · refine t_mPush' hS m s0 s1 (by omega) (fun σ' k1 k2 => ⟨by omega, ?_⟩)
      refine t_mNext_85 s0 s1 hv hv4 k (n - v) _ _ _ _ σ' (by omega) (by omega) (by omega) (by simp; omega) (by simp; omega) (k2.shp hS) k1 (fun σ2 e1 e2 => q σ2 ?_ (k2.tr e2))
      have e : fil v (k + 1) n = v :: fil v k (n - v) := by
        show (if n ≤ 0 then [] else min v n :: fil v k (n - v)) = _
        rw [if_neg (by omega), show min v n = v by omega]
      rw [e]
      rw [List.append_assoc] at e1
      exact e1
    · refine t_mPush' hS m s0 s1 (by omega) (fun σ' k1 k2 => ⟨by omega, ?_⟩)
      refine t_mNext_85 s0 s1 hv hv4 k (n - n) _ _ _ _ σ' (by omega) (by omega) (by omega) (by simp; omega) (by simp; omega) (k2.shp hS) k1 (fun σ2 e1 e2 => q σ2 ?_ (k2.tr e2))
      have e : fil v (k + 1) n = n :: fil v k (n - n) := by
        show (if n ≤ 0 then [] else min v n :: fil v k (n - v)) = _
        rw [if_neg (by omega), show min v n = n by omega, fil_nonpos (by omega), fil_nonpos (by omega)]
      rw [e]
      rw [List.append_assoc] at e1
      exact e1
set_option maxHeartbeats 1000000 in
theorem m_next {Q : ZQ} {σ : ZM} {N : List (Int × List Int)} {S : Int → List Int} {s : Int} (h : MI σ S N) (hp : PtS S) (hs : -2147483648 ≤ s ∧ s ≤ 2147483647)
    (q0 : (s < 0 ∨ 7 < s) → Q (zi (-2)) σ) (q2 : 0 ≤ s → s ≤ 7 → ga (S s) 0 ≤ 1 → Q (zi 0) σ)
    (q1 : 0 ≤ s → s ≤ 7 → ∀ i, isNx (S s) i → ∀ σ', MI σ' (upS S s (nxL (S s) i)) (actN S N s) → Fz maf σ σ' → Q (zi 1) σ') : WP m_Mod_next 0 [zr 192, zi s, zu, zu, zu, zu, zu] [] σ (0, 0) Q := by
  obtain ⟨hS, hn, M, m, hM⟩ := h
  refine r_Mod_next_0 ?_
  simp only [hS, zrI, zrL, zrR, Shp_wI, Shp_wJ, zR_wI, zR_wJ, zJ_wI, zI_wJ, zobj_wI, zobj_wJ, zarr_wI, zarr_wJ, zS_wI, zS_wJ, o_192, a_193, a_194, a_195, a_196, a_197, a_198, a_199, a_200, a_201, a_202, a_203, a_204, a_205, a_206, a_207, a_208, a_209, a_210, r_192_0, r_192_1, r_192_2, r_192_3, r_192_4, r_192_5, r_192_7, r_192_8, r_192_14, r_192_16, r_192_17, r_192_18, r_192_19, r_192_20, r_192_22, r_192_23, r_192_25, r_192_26, zrI, zrL, zrR, ne_eq, true_and, and_true, true_or, or_true, not_true_eq_false, not_false_eq_true, false_and, and_false, forall_const, true_implies, false_implies, implies_true, reduceCtorEq, Int.reduceEq, Int.reduceNe, Int.reduceLT, Int.reduceLE, Int.reduceNeg, Nat.reduceEqDiff, if_true, if_false, reduceIte, Int.reduceMul, Int.reduceAdd, Int.reduceSub]
  refine t_mSheet hs (fun s0 s1 => ?_) (fun c => ?_)
  · obtain ⟨g1, g2, g3⟩ := m s s0 (by omega)
    have eM := hM s s0 s1
    have hp := hp s s0 s1
    have hlen := hp.len
    have fin : ∀ k : Int, isNx (S s) k → WP m_Mod_note 0 [zr 192, zi s, zu, zu] [] σ (0, 0) (fun r1 σ2 => (zobj σ2 192 11 ∧ WP m_Mod_at 0 [zr 192, zi s, zi k] [] σ2 (0, 0) (fun r4 σ5 => zrI r4 (fun y6 => ((-2147483648 ≤ (y6 - 1 : Int) ∧ (y6 - 1 : Int) ≤ 2147483647) ∧ ((-2147483648 ≤ ((((S s).length : Int) - 1 - k) + 1 : Int) ∧ ((((S s).length : Int) - 1 - k) + 1 : Int) ≤ 2147483647) ∧ (zobj σ5 192 11 ∧ (zarr σ5 (zR σ5 192 2) 100 s ∧ (zobj (wI σ5 (zR σ5 192 2) s k) 192 11 ∧ WP m_Mod_push 0 [zr 192, zi s, zi (y6 - 1)] [] (wI σ5 (zR σ5 192 2) s k) (0, 0) (fun r7 σ8 => WP m_Mod_next 85 [zr 192, zi s, zi k, zi (((S s).length : Int) - 1 - k), zi (y6 - 1), zi ((((S s).length : Int) - 1 - k) + 1), zu] [] σ8 (0, 0) Q)))))))))) := by
      intro k hk
      obtain ⟨a1, a2, a3, a4⟩ := id hk
      have hr := hp.rng k
      refine t_mNote hS m hn s0 (by omega) (fun τ k1 k2 => ?_)
      have hT := k2.shp hS
      have mT := k2.ms (fun j => by omega) (fun j => by omega) m
      simp only [hT, zrI, zrL, zrR, Shp_wI, Shp_wJ, zR_wI, zR_wJ, zJ_wI, zI_wJ, zobj_wI, zobj_wJ, zarr_wI, zarr_wJ, zS_wI, zS_wJ, o_192, a_193, a_194, a_195, a_196, a_197, a_198, a_199, a_200, a_201, a_202, a_203, a_204, a_205, a_206, a_207, a_208, a_209, a_210, r_192_0, r_192_1, r_192_2, r_192_3, r_192_4, r_192_5, r_192_7, r_192_8, r_192_14, r_192_16, r_192_17, r_192_18, r_192_19, r_192_20, r_192_22, r_192_23, r_192_25, r_192_26, zrI, zrL, zrR, ne_eq, true_and, and_true, true_or, or_true, not_true_eq_false, not_false_eq_true, false_and, and_false, forall_const, true_implies, false_implies, implies_true, reduceCtorEq, Int.reduceEq, Int.reduceNe, Int.reduceLT, Int.reduceLE, Int.reduceNeg, Nat.reduceEqDiff, if_true, if_false, reduceIte, Int.reduceMul, Int.reduceAdd, Int.reduceSub]
      refine t_mAt hT mT s0 (by omega) a1 ?_
      simp only [hT, eM, zrI, zrL, zrR, Shp_wI, Shp_wJ, zR_wI, zR_wJ, zJ_wI, zI_wJ, zobj_wI, zobj_wJ, zarr_wI, zarr_wJ, zS_wI, zS_wJ, o_192, a_193, a_194, a_195, a_196, a_197, a_198, a_199, a_200, a_201, a_202, a_203, a_204, a_205, a_206, a_207, a_208, a_209, a_210, r_192_0, r_192_1, r_192_2, r_192_3, r_192_4, r_192_5, r_192_7, r_192_8, r_192_14, r_192_16, r_192_17, r_192_18, r_192_19, r_192_20, r_192_22, r_192_23, r_192_25, r_192_26, zrI, zrL, zrR, ne_eq, true_and, and_true, true_or, or_true, not_true_eq_false, not_false_eq_true, false_and, and_false, forall_const, true_implies, false_implies, implies_true, reduceCtorEq, Int.reduceEq, Int.reduceNe, Int.reduceLT, Int.reduceLE, Int.reduceNeg, Nat.reduceEqDiff, if_true, if_false, reduceIte, Int.reduceMul, Int.reduceAdd, Int.reduceSub]
      repeat' first | omega | exact Or.inl (by omega) | apply And.intro | refine fun (_ : _ ≤ _) => ?_ | refine fun (_ : _ < _) => ?_ | refine fun (_ : _ = _) => ?_ | refine fun (_ : ¬ (_ = _)) => ?_ | refine fun (_ : _ ∨ _) => ?_
      have mU : MS (wI τ 195 s k) (upS M s ((S s).take k.toNat)) := fun u u0 u1 => by
        obtain ⟨h1, h2, h3⟩ := mT u u0 u1
        unfold upS
        by_cases e : u = s
        · rw [if_pos e]
          have hl : ((S s).take k.toNat).length = k.toNat := by rw [List.length_take]; omega
          refine ⟨by rw [zI_wI, if_pos ⟨rfl, e⟩, hl]; omega, by omega, fun j j0 j1 => ?_⟩
          rw [hl] at j1
          rw [zI_wI, if_neg (by omega), ga_take, if_pos j1, h3 j j0 (by rw [e, eM]; omega), e, eM]
        · rw [if_neg e]
          exact ⟨by rw [zI_wI, if_neg (fun w => e w.2)]; exact h1, h2, fun j j0 j1 => by rw [zI_wI, if_neg (by omega)]; exact h3 j j0 j1⟩
      have hl : ((S s).take k.toNat).length = k.toNat := by rw [List.length_take]; omega
      have h8 := sum_pos ((S s).take k.toNat) (fun x hx => hp.1 x (List.mem_of_mem_take hx))
      have h9 := hk.sum
      have h4 := hp.2.1
      refine t_mPush' (show Shp (wI τ 195 s k) from hT) mU s0 (by omega) (by omega) (fun υ j1 j2 => ?_)
      refine t_mNext_85 s0 (by omega) (by omega) (by omega) 400 _ _ _ _ _ υ (by omega) (by omega) (by omega) (by simp; omega) (by simp; omega) (j2.shp hT) j1 (fun ω i1 i2 => ?_)
      rw [show (((S s).length : Int) - 1 - k) + 1 = ((S s).length : Int) - k by omega, ← nxL_eq hk hp] at i1
      have ft : Fz maf σ ω := ((k2.mono (fun a j w => by omega)).tr (Fz.wI (by omega))).tr (((j2.tr i2).z (P' := mfr') (fun a j w => w)).mono (fun a j w => by omega))
      have fn : Fz mfr' τ ω := (Fz.wI (by omega)).tr ((j2.tr i2).z (fun a j w => w))
      refine q1 s0 s1 k hk ω ⟨ft.shp hS, fn.mn (by omega) (fun j => by omega) (fun j => by omega) (fun j => by omega) ?_, _, i1, fun t t0 t1 => ?_⟩ ft
      · unfold actN
        rw [← eM]
        exact k1
      · unfold upS
        split
        · rfl
        · exact hM t t0 t1
    have key : ∀ (j : Nat) (k : Int) (u1 u2 : PV), k + 1 = j → k < ((S s).length : Int) → (∀ x, k < x → x < ((S s).length : Int) → ga (S s) x = 1) → WP m_Mod_next 22 [zr 192, zi s, zi k, zi (((S s).length : Int) - 1 - k), u1, u2, zu] [] σ (0, 0) Q := by
      intro j
      induction j with
      | zero =>
        intro k u1 u2 hk k1 hb
        refine r_Mod_next_22 ?_
        simp only [hS, zrI, zrL, zrR, Shp_wI, Shp_wJ, zR_wI, zR_wJ, zJ_wI, zI_wJ, zobj_wI, zobj_wJ, zarr_wI, zarr_wJ, zS_wI, zS_wJ, o_192, a_193, a_194, a_195, a_196, a_197, a_198, a_199, a_200, a_201, a_202, a_203, a_204, a_205, a_206, a_207, a_208, a_209, a_210, r_192_0, r_192_1, r_192_2, r_192_3, r_192_4, r_192_5, r_192_7, r_192_8, r_192_14, r_192_16, r_192_17, r_192_18, r_192_19, r_192_20, r_192_22, r_192_23, r_192_25, r_192_26, zrI, zrL, zrR, ne_eq, true_and, and_true, true_or, or_true, not_true_eq_false, not_false_eq_true, false_and, and_false, forall_const, true_implies, false_implies, implies_true, reduceCtorEq, Int.reduceEq, Int.reduceNe, Int.reduceLT, Int.reduceLE, Int.reduceNeg, Nat.reduceEqDiff, if_true, if_false, reduceIte, Int.reduceMul, Int.reduceAdd, Int.reduceSub]
        repeat' first | omega | exact Or.inl (by omega) | apply And.intro | refine fun (_ : _ ≤ _) => ?_ | refine fun (_ : _ < _) => ?_ | refine fun (_ : _ = _) => ?_ | refine fun (_ : ¬ (_ = _)) => ?_ | refine fun (_ : _ ∨ _) => ?_
        refine q2 s0 s1 ?_
        by_cases c : (S s).length = 0
        · rw [ga_out (by omega)]; omega
        · rw [hb 0 (by omega) (by omega)]; omega
      | succ j ih =>
        intro k u1 u2 hk k1 hb
        refine r_Mod_next_22 ?_
        simp only [hS, zrI, zrL, zrR, Shp_wI, Shp_wJ, zR_wI, zR_wJ, zJ_wI, zI_wJ, zobj_wI, zobj_wJ, zarr_wI, zarr_wJ, zS_wI, zS_wJ, o_192, a_193, a_194, a_195, a_196, a_197, a_198, a_199, a_200, a_201, a_202, a_203, a_204, a_205, a_206, a_207, a_208, a_209, a_210, r_192_0, r_192_1, r_192_2, r_192_3, r_192_4, r_192_5, r_192_7, r_192_8, r_192_14, r_192_16, r_192_17, r_192_18, r_192_19, r_192_20, r_192_22, r_192_23, r_192_25, r_192_26, zrI, zrL, zrR, ne_eq, true_and, and_true, true_or, or_true, not_true_eq_false, not_false_eq_true, false_and, and_false, forall_const, true_implies, false_implies, implies_true, reduceCtorEq, Int.reduceEq, Int.reduceNe, Int.reduceLT, Int.reduceLE, Int.reduceNeg, Nat.reduceEqDiff, if_true, if_false, reduceIte, Int.reduceMul, Int.reduceAdd, Int.reduceSub]
        repeat' first | omega | exact Or.inl (by omega) | apply And.intro | refine fun (_ : _ ≤ _) => ?_ | refine fun (_ : _ < _) => ?_ | refine fun (_ : _ = _) => ?_ | refine fun (_ : ¬ (_ = _)) => ?_ | refine fun (_ : _ ∨ _) => ?_
        refine t_mAt hS m s0 (by omega) (by omega) ?_
        have hpos := hp.pos (i := k) (by omega) (by omega)
        simp only [hS, eM, zrI, zrL, zrR, Shp_wI, Shp_wJ, zR_wI, zR_wJ, zJ_wI, zI_wJ, zobj_wI, zobj_wJ, zarr_wI, zarr_wJ, zS_wI, zS_wJ, o_192, a_193, a_194, a_195, a_196, a_197, a_198, a_199, a_200, a_201, a_202, a_203, a_204, a_205, a_206, a_207, a_208, a_209, a_210, r_192_0, r_192_1, r_192_2, r_192_3, r_192_4, r_192_5, r_192_7, r_192_8, r_192_14, r_192_16, r_192_17, r_192_18, r_192_19, r_192_20, r_192_22, r_192_23, r_192_25, r_192_26, zrI, zrL, zrR, ne_eq, true_and, and_true, true_or, or_true, not_true_eq_false, not_false_eq_true, false_and, and_false, forall_const, true_implies, false_implies, implies_true, reduceCtorEq, Int.reduceEq, Int.reduceNe, Int.reduceLT, Int.reduceLE, Int.reduceNeg, Nat.reduceEqDiff, if_true, if_false, reduceIte, Int.reduceMul, Int.reduceAdd, Int.reduceSub]
        repeat' first | omega | exact Or.inl (by omega) | apply And.intro | refine fun (_ : _ ≤ _) => ?_ | refine fun (_ : _ < _) => ?_ | refine fun (_ : _ = _) => ?_ | refine fun (_ : ¬ (_ = _)) => ?_ | refine fun (_ : _ ∨ _) => ?_
        · exact fin k ⟨by omega, by omega, hb, by omega⟩
        · have := ih (k + -1) u1 u2 (by omega) (by omega) (fun x x0 x1 => by
            by_cases e : x = k
            · rw [e]; omega
            · exact hb x (by omega) x1)
          rw [show ((S s).length : Int) - 1 - (k + -1) = ((S s).length : Int) - 1 - k + 1 by omega] at this
          exact this
    simp only [hS, zrI, zrL, zrR, Shp_wI, Shp_wJ, zR_wI, zR_wJ, zJ_wI, zI_wJ, zobj_wI, zobj_wJ, zarr_wI, zarr_wJ, zS_wI, zS_wJ, o_192, a_193, a_194, a_195, a_196, a_197, a_198, a_199, a_200, a_201, a_202, a_203, a_204, a_205, a_206, a_207, a_208, a_209, a_210, r_192_0, r_192_1, r_192_2, r_192_3, r_192_4, r_192_5, r_192_7, r_192_8, r_192_14, r_192_16, r_192_17, r_192_18, r_192_19, r_192_20, r_192_22, r_192_23, r_192_25, r_192_26, zrI, zrL, zrR, ne_eq, true_and, and_true, true_or, or_true, not_true_eq_false, not_false_eq_true, false_and, and_false, forall_const, true_implies, false_implies, implies_true, reduceCtorEq, Int.reduceEq, Int.reduceNe, Int.reduceLT, Int.reduceLE, Int.reduceNeg, Nat.reduceEqDiff, if_true, if_false, reduceIte, Int.reduceMul, Int.reduceAdd, Int.reduceSub]
    rw [g1, eM]
    repeat' first | omega | exact Or.inl (by omega) | apply And.intro | refine fun (_ : _ ≤ _) => ?_ | refine fun (_ : _ < _) => ?_ | refine fun (_ : _ = _) => ?_ | refine fun (_ : ¬ (_ = _)) => ?_ | refine fun (_ : _ ∨ _) => ?_
    have := key (S s).length (((S s).length : Int) - 1) zu zu (by omega) (by omega) (fun x x0 x1 => by omega)
    rw [show ((S s).length : Int) - 1 - (((S s).length : Int) - 1) = 0 by omega] at this
    exact this
  · simp only [hS, zrI, zrL, zrR, Shp_wI, Shp_wJ, zR_wI, zR_wJ, zJ_wI, zI_wJ, zobj_wI, zobj_wJ, zarr_wI, zarr_wJ, zS_wI, zS_wJ, o_192, a_193, a_194, a_195, a_196, a_197, a_198, a_199, a_200, a_201, a_202, a_203, a_204, a_205, a_206, a_207, a_208, a_209, a_210, r_192_0, r_192_1, r_192_2, r_192_3, r_192_4, r_192_5, r_192_7, r_192_8, r_192_14, r_192_16, r_192_17, r_192_18, r_192_19, r_192_20, r_192_22, r_192_23, r_192_25, r_192_26, zrI, zrL, zrR, ne_eq, true_and, and_true, true_or, or_true, not_true_eq_false, not_false_eq_true, false_and, and_false, forall_const, true_implies, false_implies, implies_true, reduceCtorEq, Int.reduceEq, Int.reduceNe, Int.reduceLT, Int.reduceLE, Int.reduceNeg, Nat.reduceEqDiff, if_true, if_false, reduceIte, Int.reduceMul, Int.reduceAdd, Int.reduceSub]
    exact q0 (by omega)
