/-! rank, tell, of the class -/
/-- going down from b -/
def Dn : Int → List Int → Prop
  | _, [] => True
  | b, x :: l => 1 ≤ x ∧ x ≤ b ∧ Dn x l
theorem ga_cons0 {x : Int} {l : List Int} : ga (x :: l) 0 = x := rfl
theorem ga_cons {x : Int} {l : List Int} {i : Int} (h : 0 ≤ i) : ga (x :: l) (i + 1) = ga l i := by
  obtain ⟨n, rfl⟩ := Int.eq_ofNat_of_zero_le h
  unfold ga
  rw [if_neg (by omega), if_neg (by omega), show ((n : Int) + 1).toNat = n + 1 by omega, Int.toNat_natCast, List.getD_cons_succ]
theorem Dn_all : ∀ {b : Int} {l : List Int}, Dn b l → 0 ≤ b → (∀ x ∈ l, 1 ≤ x) ∧ ∀ i, 0 ≤ i → ga l i ≤ b
  | b, [], _, hb => ⟨fun x hx => (by cases hx), fun i i0 => by rw [ga_out (by show (0 : Int) ≤ i; exact i0)]; exact hb⟩
  | b, x :: l, h, hb => by
    obtain ⟨h1, h2, h3⟩ := h
    obtain ⟨a1, a2⟩ := Dn_all h3 (by omega)
    refine ⟨fun y hy => ?_, fun i i0 => ?_⟩
    · rcases List.mem_cons.mp hy with e | e
      · rw [e]; exact h1
      · exact a1 y e
    · by_cases e : i = 0
      · rw [e, ga_cons0]; exact h2
      · have := a2 (i - 1) (by omega)
        rw [show i = i - 1 + 1 by omega, ga_cons (by omega)]
        omega
theorem Dn_sort : ∀ {b : Int} {l : List Int}, Dn b l → ∀ i j, 0 ≤ i → i ≤ j → ga l j ≤ ga l i
  | b, [], _, i, j, i0, ij => by rw [ga_out (by show (0 : Int) ≤ j; omega), ga_out (by show (0 : Int) ≤ i; exact i0)]; omega
  | b, x :: l, h, i, j, i0, ij => by
    obtain ⟨h1, h2, h3⟩ := h
    by_cases e : i = 0
    · by_cases e2 : j = 0
      · rw [e, e2]; omega
      · have := (Dn_all h3 (by omega)).2 (j - 1) (by omega)
        rw [e, ga_cons0, show j = j - 1 + 1 by omega, ga_cons (by omega)]
        exact this
    · rw [show i = i - 1 + 1 by omega, show j = j - 1 + 1 by omega, ga_cons (by omega), ga_cons (by omega)]
      exact Dn_sort h3 (i - 1) (j - 1) (by omega) (by omega)
theorem Dn_Pt {b : Int} {l : List Int} (h : Dn b l) (hb : 0 ≤ b) (hs : l.sum ≤ 400) : Pt l := ⟨(Dn_all h hb).1, hs, Dn_sort h⟩
theorem tlL_ok {w : LW} (ok : lawOK w) (hw : w 0 ≤ 3) : ∀ (f i b o n r : Nat), n ≤ f → (n = 0 ∨ r < sW w i b o n (topN i b n)) → Dn (topN i b n : Int) (tlL w f i b o n r) ∧ (tlL w f i b o n r).sum = (n : Int)
  | 0, i, b, o, n, r, hf, h => by
    rw [show n = 0 by omega]
    exact ⟨trivial, by rfl⟩
  | f + 1, i, b, o, n, r, hf, h => by
    by_cases hn : n = 0
    · rw [hn, tlL_done]
      exact ⟨trivial, by rfl⟩
    · rw [tlL_step hn]
      obtain ⟨p1, p2, p3⟩ := pick_ok (W := WN w i b o n) (topN i b n) r (by rcases h with e | e; exact absurd e hn; exact e)
      generalize hp : pick (WN w i b o n) (topN i b n) r = p at p1 p2 p3 ⊢
      have ht : topN i b n ≤ n := by unfold topN; split <;> omega
      have ih := tlL_ok ok hw f (i + 1) p.1 (hadN i b o p.1 + 1) (n - p.1) p.2 (by omega) (by
        by_cases c0 : n - p.1 = 0
        · exact Or.inl c0
        · right
          have := WN_next ok hw (i := i) (b := b) (o := o) (n := n) (v := p.1) p1 (by omega)
          have e : topN (i + 1) p.1 (n - p.1) = min p.1 (n - p.1) := by unfold topN; rw [if_neg (by omega)]
          rw [e]
          by_cases c1 : p.1 ≤ n - p.1
          · rw [Nat.min_eq_left c1]; omega
          · rw [Nat.min_eq_right (by omega), ← sW_big (t := p.1) (by omega)]; omega)
      obtain ⟨i1, i2⟩ := ih
      refine ⟨⟨by omega, by omega, ?_⟩, ?_⟩
      · have e : topN (i + 1) p.1 (n - p.1) = min p.1 (n - p.1) := by unfold topN; rw [if_neg (by omega)]
        rw [e] at i1
        have up : ∀ {a b : Int} {l : List Int}, a ≤ b → Dn a l → Dn b l := fun {a b l} hab hd => by
          cases l with
          | nil => trivial
          | cons x l => exact ⟨hd.1, by have := hd.2.1; omega, hd.2.2⟩
        exact up (by omega) i1
      · rw [List.sum_cons, i2]
        omega
abbrev rkf (a : Nat) (j : Int) : Prop := cof a j ∨ a = 135 ∨ a = 136
theorem t_rank {Q : ZQ} {σ : ZM} {N : List (Int × List Int)} {S : Int → List Int} {L : Int → LW} {l s : Int} (h : AI σ S N) (co : CoI σ L)
    (q0 : (l < 0 ∨ 7 < l ∨ s < 0 ∨ 7 < s ∨ 3 < L l 0 ∨ covN (L l) < (S s).sum) → Q (zl (Int64.ofNat 18446744073709551614)) σ)
    (q2 : 0 ≤ l → l ≤ 7 → 0 ≤ s → s ≤ 7 → L l 0 ≤ 3 → (S s).sum ≤ covN (L l) → ∀ r, ClashR (L l) (S s) r → r ≠ -1 → ∀ σ', CoI σ' L → Fz rkf σ σ' → Q (zl (Int64.ofNat 18446744073709551613)) σ')
    (q1 : 0 ≤ l → l ≤ 7 → 0 ≤ s → s ≤ 7 → L l 0 ≤ 3 → (S s).sum ≤ covN (L l) → ClashR (L l) (S s) (-1) → ∀ σ', CoI σ' L → Fz rkf σ σ' → Q (zl (Int64.ofNat (rkF (L l) (S s) (S s).length 0 0 0 (S s).sum.toNat))) σ') : WP m_PP_rank 0 [zr 2, zi l, zi s] [] σ (0, 0) Q := by
  have hS := h.1
  refine r_PP_rank_0 (t_isLaw (fun l0 l1 => ?_) (fun c => ?_))
  · simp only [zrI, zrL, zrR, ne_eq, true_and, and_true, true_or, or_true, not_true_eq_false, not_false_eq_true, false_and, and_false, forall_const, true_implies, false_implies, implies_true, reduceCtorEq, Int.reduceEq, Int.reduceNe, Int.reduceLT, Int.reduceLE, Int.reduceNeg, Nat.reduceEqDiff, if_true, if_false, reduceIte, Int.reduceMul, Int.reduceAdd, Int.reduceSub]
    refine t_isSheet (fun s0 s1 => ?_) (fun c => ?_)
    · have hl := isL_law l0 l1
      obtain ⟨ok, p⟩ := co.1 l l0 l1
      obtain ⟨hp, hlz⟩ := h.2.2 s s0 s1
      have os := hS.sumO (isS_sheet s0 s1)
      simp only [hS, hS.r4 l0 l1, (hS.lawO hl).1, zrI, zrL, zrR, Shp_wI, Shp_wJ, zR_wI, zR_wJ, zJ_wI, zI_wJ, zobj_wI, zobj_wJ, zarr_wI, zarr_wJ, zS_wI, zS_wJ, o_2, a_3, a_4, a_5, o_10, a_11, a_12, o_137, o_138, a_139, o_140, a_141, o_142, a_143, o_146, a_147, a_148, a_149, o_152, a_153, o_154, a_157, o_158, a_159, r_2_0, r_2_1, r_2_2, r_2_3, r_2_4, r_2_5, r_2_6, r_2_7, r_2_8, r_2_9, r_2_10, r_10_0, r_10_1, r_137_0, r_137_1, r_137_2, r_138_0, r_140_0, r_142_0, r_146_0, r_146_1, r_146_2, r_146_3, r_152_0, r_154_0, r_154_1, r_158_0, zrI, zrL, zrR, ne_eq, true_and, and_true, true_or, or_true, not_true_eq_false, not_false_eq_true, false_and, and_false, forall_const, true_implies, false_implies, implies_true, reduceCtorEq, Int.reduceEq, Int.reduceNe, Int.reduceLT, Int.reduceLE, Int.reduceNeg, Nat.reduceEqDiff, if_true, if_false, reduceIte, Int.reduceMul, Int.reduceAdd, Int.reduceSub]
      refine ⟨by omega, t_isRanked (hS.lawO hl).1 p (fun hw => ?_) (fun c => ?_)⟩
      · simp only [hS, hS.r4 l0 l1, hS.r3 s0 s1, (hS.lawO hl).1, os.1, hlz.2.1, zrI, zrL, zrR, Shp_wI, Shp_wJ, zR_wI, zR_wJ, zJ_wI, zI_wJ, zobj_wI, zobj_wJ, zarr_wI, zarr_wJ, zS_wI, zS_wJ, o_2, a_3, a_4, a_5, o_10, a_11, a_12, o_137, o_138, a_139, o_140, a_141, o_142, a_143, o_146, a_147, a_148, a_149, o_152, a_153, o_154, a_157, o_158, a_159, r_2_0, r_2_1, r_2_2, r_2_3, r_2_4, r_2_5, r_2_6, r_2_7, r_2_8, r_2_9, r_2_10, r_10_0, r_10_1, r_137_0, r_137_1, r_137_2, r_138_0, r_140_0, r_142_0, r_146_0, r_146_1, r_146_2, r_146_3, r_152_0, r_154_0, r_154_1, r_158_0, zrI, zrL, zrR, ne_eq, true_and, and_true, true_or, or_true, not_true_eq_false, not_false_eq_true, false_and, and_false, forall_const, true_implies, false_implies, implies_true, reduceCtorEq, Int.reduceEq, Int.reduceNe, Int.reduceLT, Int.reduceLE, Int.reduceNeg, Nat.reduceEqDiff, if_true, if_false, reduceIte, Int.reduceMul, Int.reduceAdd, Int.reduceSub]
        refine ⟨by omega, by omega, t_covers (hS.lawO hl).1 p (fun n0 n1 => ?_) (fun c => ?_)⟩
        · simp only [hS, hS.r4 l0 l1, hS.r3 s0 s1, zrI, zrL, zrR, Shp_wI, Shp_wJ, zR_wI, zR_wJ, zJ_wI, zI_wJ, zobj_wI, zobj_wJ, zarr_wI, zarr_wJ, zS_wI, zS_wJ, o_2, a_3, a_4, a_5, o_10, a_11, a_12, o_137, o_138, a_139, o_140, a_141, o_142, a_143, o_146, a_147, a_148, a_149, o_152, a_153, o_154, a_157, o_158, a_159, r_2_0, r_2_1, r_2_2, r_2_3, r_2_4, r_2_5, r_2_6, r_2_7, r_2_8, r_2_9, r_2_10, r_10_0, r_10_1, r_137_0, r_137_1, r_137_2, r_138_0, r_140_0, r_142_0, r_146_0, r_146_1, r_146_2, r_146_3, r_152_0, r_154_0, r_154_1, r_158_0, zrI, zrL, zrR, ne_eq, true_and, and_true, true_or, or_true, not_true_eq_false, not_false_eq_true, false_and, and_false, forall_const, true_implies, false_implies, implies_true, reduceCtorEq, Int.reduceEq, Int.reduceNe, Int.reduceLT, Int.reduceLE, Int.reduceNeg, Nat.reduceEqDiff, if_true, if_false, reduceIte, Int.reduceMul, Int.reduceAdd, Int.reduceSub]
          refine ⟨by omega, by omega, t_firstClash hS hl (isS_sheet s0 s1) (by omega) p ok hp hlz (fun r τ hr f => ?_)⟩
          have hT := f.shp hS
          have fz : Fz (fun a j => a = 135 ∨ a = 136) σ τ := f.z (fun a j w => w)
          have cT := fz.coI (fun a j w => by omega) co
          have lT := fz.lz (fun j => by omega) (fun j => by omega) hlz
          simp only [hT, hT.r4 l0 l1, hT.r3 s0 s1, zrI, zrL, zrR, Shp_wI, Shp_wJ, zR_wI, zR_wJ, zJ_wI, zI_wJ, zobj_wI, zobj_wJ, zarr_wI, zarr_wJ, zS_wI, zS_wJ, o_2, a_3, a_4, a_5, o_10, a_11, a_12, o_137, o_138, a_139, o_140, a_141, o_142, a_143, o_146, a_147, a_148, a_149, o_152, a_153, o_154, a_157, o_158, a_159, r_2_0, r_2_1, r_2_2, r_2_3, r_2_4, r_2_5, r_2_6, r_2_7, r_2_8, r_2_9, r_2_10, r_10_0, r_10_1, r_137_0, r_137_1, r_137_2, r_138_0, r_140_0, r_142_0, r_146_0, r_146_1, r_146_2, r_146_3, r_152_0, r_154_0, r_154_1, r_158_0, zrI, zrL, zrR, ne_eq, true_and, and_true, true_or, or_true, not_true_eq_false, not_false_eq_true, false_and, and_false, forall_const, true_implies, false_implies, implies_true, reduceCtorEq, Int.reduceEq, Int.reduceNe, Int.reduceLT, Int.reduceLE, Int.reduceNeg, Nat.reduceEqDiff, if_true, if_false, reduceIte, Int.reduceMul, Int.reduceAdd, Int.reduceSub]
          refine ⟨fun e => ⟨by omega, by omega, t_waysAheadOf hT cT l0 l1 hw (isS_sheet s0 s1) hp lT n1 (by rw [e] at hr; exact hr) (fun υ w1 w2 => ?_)⟩, fun e => ?_⟩
          · exact q1 l0 l1 s0 s1 hw n1 (by rw [e] at hr; exact hr) υ w1 ((fz.mono (fun a j w => by omega)).tr (w2.mono (fun a j w => Or.inl w)))
          · exact q2 l0 l1 s0 s1 hw n1 r hr e τ cT (fz.mono (fun a j w => by omega))
        · simp only [zrI, zrL, zrR, ne_eq, true_and, and_true, true_or, or_true, not_true_eq_false, not_false_eq_true, false_and, and_false, forall_const, true_implies, false_implies, implies_true, reduceCtorEq, Int.reduceEq, Int.reduceNe, Int.reduceLT, Int.reduceLE, Int.reduceNeg, Nat.reduceEqDiff, if_true, if_false, reduceIte, Int.reduceMul, Int.reduceAdd, Int.reduceSub]
          have hlen := hp.len
          exact q0 (Or.inr (Or.inr (Or.inr (Or.inr (Or.inr (by unfold covN; omega))))))
      · simp only [zrI, zrL, zrR, ne_eq, true_and, and_true, true_or, or_true, not_true_eq_false, not_false_eq_true, false_and, and_false, forall_const, true_implies, false_implies, implies_true, reduceCtorEq, Int.reduceEq, Int.reduceNe, Int.reduceLT, Int.reduceLE, Int.reduceNeg, Nat.reduceEqDiff, if_true, if_false, reduceIte, Int.reduceMul, Int.reduceAdd, Int.reduceSub]
        exact q0 (by omega)
    · simp only [zrI, zrL, zrR, ne_eq, true_and, and_true, true_or, or_true, not_true_eq_false, not_false_eq_true, false_and, and_false, forall_const, true_implies, false_implies, implies_true, reduceCtorEq, Int.reduceEq, Int.reduceNe, Int.reduceLT, Int.reduceLE, Int.reduceNeg, Nat.reduceEqDiff, if_true, if_false, reduceIte, Int.reduceMul, Int.reduceAdd, Int.reduceSub]
      exact q0 (by omega)
  · simp only [zrI, zrL, zrR, ne_eq, true_and, and_true, true_or, or_true, not_true_eq_false, not_false_eq_true, false_and, and_false, forall_const, true_implies, false_implies, implies_true, reduceCtorEq, Int.reduceEq, Int.reduceNe, Int.reduceLT, Int.reduceLE, Int.reduceNeg, Nat.reduceEqDiff, if_true, if_false, reduceIte, Int.reduceMul, Int.reduceAdd, Int.reduceSub]
    exact q0 (by omega)
abbrev tef (a : Nat) (j : Int) : Prop := cof a j ∨ acf a
theorem t_tell {Q : ZQ} {σ : ZM} {N : List (Int × List Int)} {S : Int → List Int} {L : Int → LW} {l n s : Int} {R : Int64} (h : AI σ S N) (co : CoI σ L)
    (q0 : (l < 0 ∨ 7 < l ∨ s < 0 ∨ 7 < s ∨ 3 < L l 0 ∨ n < 0 ∨ covN (L l) < n ∨ R.toInt < 0 ∨ (cntS (L l) n.toNat).toInt ≤ R.toInt) → ∀ σ', CoI σ' L → Fz cof σ σ' → Q (zi (-2)) σ')
    (q1 : 0 ≤ l → l ≤ 7 → 0 ≤ s → s ≤ 7 → L l 0 ≤ 3 → 0 ≤ n → n ≤ covN (L l) → 0 ≤ R.toInt → R.toInt < (cntS (L l) n.toNat).toInt → ∀ σ', AI σ' (upS S s (tlL (L l) 400 0 0 0 n.toNat R.toInt.toNat)) (actN S N s) → CoI σ' L → Fz tef σ σ' → Q (zi ((tlL (L l) 400 0 0 0 n.toNat R.toInt.toNat).length : Int)) σ') : WP m_PP_tell 0 [zr 2, zi l, zi n, zl R, zu, zi s] [] σ (0, 0) Q := by
  have hS := h.1
  refine r_PP_tell_0 (t_isLaw (fun l0 l1 => ?_) (fun c => ?_))
  · simp only [zrI, zrL, zrR, ne_eq, true_and, and_true, true_or, or_true, not_true_eq_false, not_false_eq_true, false_and, and_false, forall_const, true_implies, false_implies, implies_true, reduceCtorEq, Int.reduceEq, Int.reduceNe, Int.reduceLT, Int.reduceLE, Int.reduceNeg, Nat.reduceEqDiff, if_true, if_false, reduceIte, Int.reduceMul, Int.reduceAdd, Int.reduceSub]
    refine t_isSheet (fun s0 s1 => ?_) (fun c => ?_)
    · have hl := isL_law l0 l1
      obtain ⟨ok, p⟩ := co.1 l l0 l1
      simp only [hS, hS.r4 l0 l1, (hS.lawO hl).1, zrI, zrL, zrR, Shp_wI, Shp_wJ, zR_wI, zR_wJ, zJ_wI, zI_wJ, zobj_wI, zobj_wJ, zarr_wI, zarr_wJ, zS_wI, zS_wJ, o_2, a_3, a_4, a_5, o_10, a_11, a_12, o_137, o_138, a_139, o_140, a_141, o_142, a_143, o_146, a_147, a_148, a_149, o_152, a_153, o_154, a_157, o_158, a_159, r_2_0, r_2_1, r_2_2, r_2_3, r_2_4, r_2_5, r_2_6, r_2_7, r_2_8, r_2_9, r_2_10, r_10_0, r_10_1, r_137_0, r_137_1, r_137_2, r_138_0, r_140_0, r_142_0, r_146_0, r_146_1, r_146_2, r_146_3, r_152_0, r_154_0, r_154_1, r_158_0, zrI, zrL, zrR, ne_eq, true_and, and_true, true_or, or_true, not_true_eq_false, not_false_eq_true, false_and, and_false, forall_const, true_implies, false_implies, implies_true, reduceCtorEq, Int.reduceEq, Int.reduceNe, Int.reduceLT, Int.reduceLE, Int.reduceNeg, Nat.reduceEqDiff, if_true, if_false, reduceIte, Int.reduceMul, Int.reduceAdd, Int.reduceSub]
      refine ⟨by omega, t_isRanked (hS.lawO hl).1 p (fun hw => ?_) (fun c => ?_)⟩
      · simp only [hS, hS.r4 l0 l1, (hS.lawO hl).1, zrI, zrL, zrR, Shp_wI, Shp_wJ, zR_wI, zR_wJ, zJ_wI, zI_wJ, zobj_wI, zobj_wJ, zarr_wI, zarr_wJ, zS_wI, zS_wJ, o_2, a_3, a_4, a_5, o_10, a_11, a_12, o_137, o_138, a_139, o_140, a_141, o_142, a_143, o_146, a_147, a_148, a_149, o_152, a_153, o_154, a_157, o_158, a_159, r_2_0, r_2_1, r_2_2, r_2_3, r_2_4, r_2_5, r_2_6, r_2_7, r_2_8, r_2_9, r_2_10, r_10_0, r_10_1, r_137_0, r_137_1, r_137_2, r_138_0, r_140_0, r_142_0, r_146_0, r_146_1, r_146_2, r_146_3, r_152_0, r_154_0, r_154_1, r_158_0, zrI, zrL, zrR, ne_eq, true_and, and_true, true_or, or_true, not_true_eq_false, not_false_eq_true, false_and, and_false, forall_const, true_implies, false_implies, implies_true, reduceCtorEq, Int.reduceEq, Int.reduceNe, Int.reduceLT, Int.reduceLE, Int.reduceNeg, Nat.reduceEqDiff, if_true, if_false, reduceIte, Int.reduceMul, Int.reduceAdd, Int.reduceSub]
        refine ⟨by omega, t_covers (hS.lawO hl).1 p (fun n0 n1 => ?_) (fun c => ?_)⟩
        · have n4 : n ≤ 400 := by split at n1 <;> omega
          simp only [hS, hS.r4 l0 l1, zrI, zrL, zrR, Shp_wI, Shp_wJ, zR_wI, zR_wJ, zJ_wI, zI_wJ, zobj_wI, zobj_wJ, zarr_wI, zarr_wJ, zS_wI, zS_wJ, o_2, a_3, a_4, a_5, o_10, a_11, a_12, o_137, o_138, a_139, o_140, a_141, o_142, a_143, o_146, a_147, a_148, a_149, o_152, a_153, o_154, a_157, o_158, a_159, r_2_0, r_2_1, r_2_2, r_2_3, r_2_4, r_2_5, r_2_6, r_2_7, r_2_8, r_2_9, r_2_10, r_10_0, r_10_1, r_137_0, r_137_1, r_137_2, r_138_0, r_140_0, r_142_0, r_146_0, r_146_1, r_146_2, r_146_3, r_152_0, r_154_0, r_154_1, r_158_0, zrI, zrL, zrR, ne_eq, true_and, and_true, true_or, or_true, not_true_eq_false, not_false_eq_true, false_and, and_false, forall_const, true_implies, false_implies, implies_true, reduceCtorEq, Int.reduceEq, Int.reduceNe, Int.reduceLT, Int.reduceLE, Int.reduceNeg, Nat.reduceEqDiff, if_true, if_false, reduceIte, Int.reduceMul, Int.reduceAdd, Int.reduceSub]
          refine ⟨fun c => ?_, fun c => ⟨by omega, t_waysOf hS co l0 l1 n0 n1 (fun τ w1 w2 => ?_)⟩⟩
          · rw [zlcmp_lt] at c
            exact q0 (by have : R.toInt < 0 := c; omega) σ co Fz.rf
          · have hR0 : 0 ≤ R.toInt := by
              rcases Int.lt_or_le R.toInt 0 with z | z
              · have := (zlcmp_lt (x := R) (y := 0)).mpr z
                omega
              · exact z
            have hT := w2.shp hS
            simp only [hT, hT.r4 l0 l1, zrI, zrL, zrR, Shp_wI, Shp_wJ, zR_wI, zR_wJ, zJ_wI, zI_wJ, zobj_wI, zobj_wJ, zarr_wI, zarr_wJ, zS_wI, zS_wJ, o_2, a_3, a_4, a_5, o_10, a_11, a_12, o_137, o_138, a_139, o_140, a_141, o_142, a_143, o_146, a_147, a_148, a_149, o_152, a_153, o_154, a_157, o_158, a_159, r_2_0, r_2_1, r_2_2, r_2_3, r_2_4, r_2_5, r_2_6, r_2_7, r_2_8, r_2_9, r_2_10, r_10_0, r_10_1, r_137_0, r_137_1, r_137_2, r_138_0, r_140_0, r_142_0, r_146_0, r_146_1, r_146_2, r_146_3, r_152_0, r_154_0, r_154_1, r_158_0, zrI, zrL, zrR, ne_eq, true_and, and_true, true_or, or_true, not_true_eq_false, not_false_eq_true, false_and, and_false, forall_const, true_implies, false_implies, implies_true, reduceCtorEq, Int.reduceEq, Int.reduceNe, Int.reduceLT, Int.reduceLE, Int.reduceNeg, Nat.reduceEqDiff, if_true, if_false, reduceIte, Int.reduceMul, Int.reduceAdd, Int.reduceSub]
            refine ⟨fun c2 => ⟨by omega, ?_⟩, fun c2 => ?_⟩
            · rw [zlcmp_lt] at c2
              have eR : R = Int64.ofNat R.toInt.toNat := by
                rw [← Int64.ofInt_eq_ofNat, show (R.toInt.toNat : Int) = R.toInt by omega, Int64.ofInt_toInt]
              have hR63 : R.toInt.toNat < 9223372036854775808 := by
                have := Int64.toInt_lt R
                omega
              have hrN : n.toNat = 0 ∨ R.toInt.toNat < sW (L l) 0 0 0 n.toNat n.toNat := by
                by_cases z : n.toNat = 0
                · exact Or.inl z
                · obtain ⟨m, m1, m2, m3⟩ := cnt_le ok hw z (by omega)
                  right
                  rw [m1, Int64.toInt_ofNat_of_lt m3] at c2
                  have e : sW (L l) 0 n.toNat 0 n.toNat n.toNat = sW (L l) 0 0 0 n.toNat n.toNat := sN_ext _ (fun u _ => WN_zero)
                  omega
              have e0 : n = (n.toNat : Int) := by omega
              obtain ⟨d1, d2⟩ := tlL_ok ok hw 400 0 0 0 n.toNat R.toInt.toNat (by omega) (by
                have e : topN 0 0 n.toNat = n.toNat := by unfold topN; rw [if_pos rfl]
                rw [e]; exact hrN)
              have hPt := Dn_Pt d1 (by omega) (by rw [d2]; omega)
              conv => arg 3; rw [e0]
              generalize hr : R.toInt.toNat = r at *
              rw [eR]
              refine t_find hT w1 l0 l1 hw (by unfold covN; omega) hR63 hrN (fun υ v1 v2 v3 => ?_)
              have hU := v3.shp hT
              have fU := w2.mono (P' := fun a j => cof a j ∨ a = 133 ∨ a = 134) (fun a j w => Or.inl w)
              have aU : AI υ S N := (fU.tr v3).ai (fun a j w => by omega) h
              simp only [hU, zrI, zrL, zrR, Shp_wI, Shp_wJ, zR_wI, zR_wJ, zJ_wI, zI_wJ, zobj_wI, zobj_wJ, zarr_wI, zarr_wJ, zS_wI, zS_wJ, o_2, a_3, a_4, a_5, o_10, a_11, a_12, o_137, o_138, a_139, o_140, a_141, o_142, a_143, o_146, a_147, a_148, a_149, o_152, a_153, o_154, a_157, o_158, a_159, r_2_0, r_2_1, r_2_2, r_2_3, r_2_4, r_2_5, r_2_6, r_2_7, r_2_8, r_2_9, r_2_10, r_10_0, r_10_1, r_137_0, r_137_1, r_137_2, r_138_0, r_140_0, r_142_0, r_146_0, r_146_1, r_146_2, r_146_3, r_152_0, r_154_0, r_154_1, r_158_0, zrI, zrL, zrR, ne_eq, true_and, and_true, true_or, or_true, not_true_eq_false, not_false_eq_true, false_and, and_false, forall_const, true_implies, false_implies, implies_true, reduceCtorEq, Int.reduceEq, Int.reduceNe, Int.reduceLT, Int.reduceLE, Int.reduceNeg, Nat.reduceEqDiff, if_true, if_false, reduceIte, Int.reduceMul, Int.reduceAdd, Int.reduceSub]
              refine t_put aU s0 s1 hPt v2 (fun ω z1 z2 => ?_)
              have hW := z1.1
              have lW := (z1.2.2 s s0 s1).2
              rw [upS_same] at lW
              have fz : Fz (fun a _ => acf a) υ ω := z2.z (fun a j w => w)
              simp only [hW, hW.r3 s0 s1, (hW.sumO (isS_sheet s0 s1)).1, lW.1, zrI, zrL, zrR, Shp_wI, Shp_wJ, zR_wI, zR_wJ, zJ_wI, zI_wJ, zobj_wI, zobj_wJ, zarr_wI, zarr_wJ, zS_wI, zS_wJ, o_2, a_3, a_4, a_5, o_10, a_11, a_12, o_137, o_138, a_139, o_140, a_141, o_142, a_143, o_146, a_147, a_148, a_149, o_152, a_153, o_154, a_157, o_158, a_159, r_2_0, r_2_1, r_2_2, r_2_3, r_2_4, r_2_5, r_2_6, r_2_7, r_2_8, r_2_9, r_2_10, r_10_0, r_10_1, r_137_0, r_137_1, r_137_2, r_138_0, r_140_0, r_142_0, r_146_0, r_146_1, r_146_2, r_146_3, r_152_0, r_154_0, r_154_1, r_158_0, zrI, zrL, zrR, ne_eq, true_and, and_true, true_or, or_true, not_true_eq_false, not_false_eq_true, false_and, and_false, forall_const, true_implies, false_implies, implies_true, reduceCtorEq, Int.reduceEq, Int.reduceNe, Int.reduceLT, Int.reduceLE, Int.reduceNeg, Nat.reduceEqDiff, if_true, if_false, reduceIte, Int.reduceMul, Int.reduceAdd, Int.reduceSub]
              refine ⟨by omega, ?_⟩
              exact q1 l0 l1 s0 s1 hw n0 n1 (by omega) c2 ω z1 (fz.coI (fun a j w => by omega) v1) (((fU.tr v3).mono (fun a j w => by omega)).tr (fz.mono (fun a j w => Or.inr w)))
            · have hge : (cntS (L l) n.toNat).toInt ≤ R.toInt := by
                rcases Int.lt_or_le R.toInt (cntS (L l) n.toNat).toInt with z | z
                · have := (zlcmp_lt (x := R) (y := cntS (L l) n.toNat)).mpr z
                  omega
                · exact z
              exact q0 (by omega) τ w1 w2
        · simp only [zrI, zrL, zrR, ne_eq, true_and, and_true, true_or, or_true, not_true_eq_false, not_false_eq_true, false_and, and_false, forall_const, true_implies, false_implies, implies_true, reduceCtorEq, Int.reduceEq, Int.reduceNe, Int.reduceLT, Int.reduceLE, Int.reduceNeg, Nat.reduceEqDiff, if_true, if_false, reduceIte, Int.reduceMul, Int.reduceAdd, Int.reduceSub]
          exact q0 (by unfold covN; omega) σ co Fz.rf
      · simp only [zrI, zrL, zrR, ne_eq, true_and, and_true, true_or, or_true, not_true_eq_false, not_false_eq_true, false_and, and_false, forall_const, true_implies, false_implies, implies_true, reduceCtorEq, Int.reduceEq, Int.reduceNe, Int.reduceLT, Int.reduceLE, Int.reduceNeg, Nat.reduceEqDiff, if_true, if_false, reduceIte, Int.reduceMul, Int.reduceAdd, Int.reduceSub]
        exact q0 (by omega) σ co Fz.rf
    · simp only [zrI, zrL, zrR, ne_eq, true_and, and_true, true_or, or_true, not_true_eq_false, not_false_eq_true, false_and, and_false, forall_const, true_implies, false_implies, implies_true, reduceCtorEq, Int.reduceEq, Int.reduceNe, Int.reduceLT, Int.reduceLE, Int.reduceNeg, Nat.reduceEqDiff, if_true, if_false, reduceIte, Int.reduceMul, Int.reduceAdd, Int.reduceSub]
      exact q0 (by omega) σ co Fz.rf
  · simp only [zrI, zrL, zrR, ne_eq, true_and, and_true, true_or, or_true, not_true_eq_false, not_false_eq_true, false_and, and_false, forall_const, true_implies, false_implies, implies_true, reduceCtorEq, Int.reduceEq, Int.reduceNe, Int.reduceLT, Int.reduceLE, Int.reduceNeg, Nat.reduceEqDiff, if_true, if_false, reduceIte, Int.reduceMul, Int.reduceAdd, Int.reduceSub]
    exact q0 (by omega) σ co Fz.rf
