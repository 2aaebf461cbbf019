/-! law, count, counts, of the class -/
abbrev lwf (a : Nat) (j : Int) : Prop := (176 ≤ a ∧ a < 192) ∨ (a = 138 ∧ j = 2)
theorem mkW_ok {k a b c d : Int} (h : canB k a b c d) : lawOK (mkW k a b c d) := h
theorem t_law {Q : ZQ} {σ : ZM} {L : Int → LW} {l k a b c d : Int} (hS : Shp σ) (co : CoI σ L)
    (q0 : (l < 0 ∨ 7 < l ∨ ¬ canB k a b c d) → Q (zi (-2)) σ) (q1 : 0 ≤ l → l ≤ 7 → canB k a b c d → ∀ σ', CoI σ' (upW L l (mkW k a b c d)) → Fz lwf σ σ' → Q (zi (L l 0)) σ') : WP m_PP_law 0 [zr 2, zi l, zi k, zi a, zi b, zi c, zi d, zu] [] σ (0, 0) Q := by
  refine r_PP_law_0 (t_isLaw (fun l0 l1 => ?_) (fun c => ?_))
  · simp only [zrI, zrL, zrR, ne_eq, true_and, and_true, true_or, or_true, not_true_eq_false, not_false_eq_true, false_and, and_false, forall_const, true_implies, false_implies, implies_true, reduceCtorEq, Int.reduceEq, Int.reduceNe, Int.reduceLT, Int.reduceLE, Int.reduceNeg, Nat.reduceEqDiff, if_true, if_false, reduceIte, Int.reduceMul, Int.reduceAdd, Int.reduceSub]
    refine t_canBe (fun hc => ?_) (fun hc => ?_)
    · have hl := isL_law l0 l1
      have p := (co.1 l l0 l1).2
      simp only [hS, hS.r4 l0 l1, (hS.lawO hl).1, p.1, zrI, zrL, zrR, Shp_wI, Shp_wJ, zR_wI, zR_wJ, zJ_wI, zI_wJ, zobj_wI, zobj_wJ, zarr_wI, zarr_wJ, zS_wI, zS_wJ, o_2, a_3, a_4, a_5, o_10, a_11, a_12, o_137, o_138, a_139, o_140, a_141, o_142, a_143, o_146, a_147, a_148, a_149, o_152, a_153, o_154, a_157, o_158, a_159, r_2_0, r_2_1, r_2_2, r_2_3, r_2_4, r_2_5, r_2_6, r_2_7, r_2_8, r_2_9, r_2_10, r_10_0, r_10_1, r_137_0, r_137_1, r_137_2, r_138_0, r_140_0, r_142_0, r_146_0, r_146_1, r_146_2, r_146_3, r_152_0, r_154_0, r_154_1, r_158_0, zrI, zrL, zrR, ne_eq, true_and, and_true, true_or, or_true, not_true_eq_false, not_false_eq_true, false_and, and_false, forall_const, true_implies, false_implies, implies_true, reduceCtorEq, Int.reduceEq, Int.reduceNe, Int.reduceLT, Int.reduceLE, Int.reduceNeg, Nat.reduceEqDiff, if_true, if_false, reduceIte, Int.reduceMul, Int.reduceAdd, Int.reduceSub]
      refine ⟨by omega, by omega, t_become (hS.lawO hl).1 hc (fun τ w1 w2 w3 => ?_)⟩
      have hT := w3.shp hS
      have g : Fz (fun x j => x = 176 + 2 * l.toNat) σ τ := w3.z (fun a j w => w)
      simp only [hT, hT.r4 l0 l1, zrI, zrL, zrR, Shp_wI, Shp_wJ, zR_wI, zR_wJ, zJ_wI, zI_wJ, zobj_wI, zobj_wJ, zarr_wI, zarr_wJ, zS_wI, zS_wJ, o_2, a_3, a_4, a_5, o_10, a_11, a_12, o_137, o_138, a_139, o_140, a_141, o_142, a_143, o_146, a_147, a_148, a_149, o_152, a_153, o_154, a_157, o_158, a_159, r_2_0, r_2_1, r_2_2, r_2_3, r_2_4, r_2_5, r_2_6, r_2_7, r_2_8, r_2_9, r_2_10, r_10_0, r_10_1, r_137_0, r_137_1, r_137_2, r_138_0, r_140_0, r_142_0, r_146_0, r_146_1, r_146_2, r_146_3, r_152_0, r_154_0, r_154_1, r_158_0, zrI, zrL, zrR, ne_eq, true_and, and_true, true_or, or_true, not_true_eq_false, not_false_eq_true, false_and, and_false, forall_const, true_implies, false_implies, implies_true, reduceCtorEq, Int.reduceEq, Int.reduceNe, Int.reduceLT, Int.reduceLE, Int.reduceNeg, Nat.reduceEqDiff, if_true, if_false, reduceIte, Int.reduceMul, Int.reduceAdd, Int.reduceSub]
      refine ⟨by omega, r_Counter_forget_0 ?_⟩
      simp only [hT, zrI, zrL, zrR, Shp_wI, Shp_wJ, zR_wI, zR_wJ, zJ_wI, zI_wJ, zobj_wI, zobj_wJ, zarr_wI, zarr_wJ, zS_wI, zS_wJ, o_2, a_3, a_4, a_5, o_10, a_11, a_12, o_137, o_138, a_139, o_140, a_141, o_142, a_143, o_146, a_147, a_148, a_149, o_152, a_153, o_154, a_157, o_158, a_159, r_2_0, r_2_1, r_2_2, r_2_3, r_2_4, r_2_5, r_2_6, r_2_7, r_2_8, r_2_9, r_2_10, r_10_0, r_10_1, r_137_0, r_137_1, r_137_2, r_138_0, r_140_0, r_142_0, r_146_0, r_146_1, r_146_2, r_146_3, r_152_0, r_154_0, r_154_1, r_158_0, zrI, zrL, zrR, ne_eq, true_and, and_true, true_or, or_true, not_true_eq_false, not_false_eq_true, false_and, and_false, forall_const, true_implies, false_implies, implies_true, reduceCtorEq, Int.reduceEq, Int.reduceNe, Int.reduceLT, Int.reduceLE, Int.reduceNeg, Nat.reduceEqDiff, if_true, if_false, reduceIte, Int.reduceMul, Int.reduceAdd, Int.reduceSub]
      refine r_Table_forget_0 ?_
      simp only [hT, zrI, zrL, zrR, Shp_wI, Shp_wJ, zR_wI, zR_wJ, zJ_wI, zI_wJ, zobj_wI, zobj_wJ, zarr_wI, zarr_wJ, zS_wI, zS_wJ, o_2, a_3, a_4, a_5, o_10, a_11, a_12, o_137, o_138, a_139, o_140, a_141, o_142, a_143, o_146, a_147, a_148, a_149, o_152, a_153, o_154, a_157, o_158, a_159, r_2_0, r_2_1, r_2_2, r_2_3, r_2_4, r_2_5, r_2_6, r_2_7, r_2_8, r_2_9, r_2_10, r_10_0, r_10_1, r_137_0, r_137_1, r_137_2, r_138_0, r_140_0, r_142_0, r_146_0, r_146_1, r_146_2, r_146_3, r_152_0, r_154_0, r_154_1, r_158_0, zrI, zrL, zrR, ne_eq, true_and, and_true, true_or, or_true, not_true_eq_false, not_false_eq_true, false_and, and_false, forall_const, true_implies, false_implies, implies_true, reduceCtorEq, Int.reduceEq, Int.reduceNe, Int.reduceLT, Int.reduceLE, Int.reduceNeg, Nat.reduceEqDiff, if_true, if_false, reduceIte, Int.reduceMul, Int.reduceAdd, Int.reduceSub]
      have laws : ∀ υ : ZM, (∀ a j, 139 ≤ a → zI υ a j = zI τ a j) → (∀ a j, zJ υ a j = zJ τ a j) → LawsP υ (upW L l (mkW k a b c d)) ∧ LawsK υ (upW L l (mkW k a b c d)) := fun υ h1 h2 => by
        refine ⟨fun m m0 m1 => ?_, fun m m0 m1 => ?_⟩
        · unfold upW
          by_cases e : m = l
          · rw [if_pos e, e]
            exact ⟨mkW_ok hc, w1.same (fun j _ => h1 _ j (by omega))⟩
          · rw [if_neg e]
            exact ⟨(co.1 m m0 m1).1, (co.1 m m0 m1).2.same (fun j _ => by rw [h1 _ j (by omega), g.i (by omega)])⟩
        · unfold upW
          by_cases e : m = l
          · rw [if_pos e, e]
            have ek : zI υ (176 + 2 * l.toNat) 1 = -1 := by rw [h1 _ _ (by omega)]; exact w2
            exact ⟨by rw [ek]; omega, by rw [ek]; split <;> omega, fun n hn => by rw [ek] at hn; omega⟩
          · rw [if_neg e]
            obtain ⟨k1, k2, k3⟩ := co.2.1 m m0 m1
            have ek : zI υ (176 + 2 * m.toNat) 1 = zI σ (176 + 2 * m.toNat) 1 := by rw [h1 _ _ (by omega), g.i (by omega)]
            refine ⟨by rw [ek]; exact k1, by rw [ek]; exact k2, fun n hn => ?_⟩
            rw [ek] at hn
            rw [h2, g.j (by omega)]
            exact k3 n hn
      have hr : zR τ 138 1 = zR σ 138 1 := g.r (by omega)
      have hf : zI τ 138 2 = zI σ 138 2 := g.i (by omega)
      refine ⟨fun e => ?_, fun e => ?_⟩
      · obtain ⟨a1, a2⟩ := laws τ (fun _ _ _ => rfl) (fun _ _ => rfl)
        refine q1 l0 l1 hc τ ⟨a1, a2, ?_, g.boxI (fun j => by omega) (fun j => by omega) co.2.2.2⟩ (g.mono (fun a j w => by omega))
        obtain ⟨t1, t2, t3⟩ := co.2.2.1
        unfold TabI
        rw [hf, hr]
        refine ⟨t1, t2, ?_⟩
        rcases t3 with x | ⟨m, m0, m1, m2, m3, m4⟩
        · exact Or.inl x
        · have hm : m ≠ l := fun em => e (by rw [hr, m3, em])
          refine Or.inr ⟨m, m0, m1, ?_, m3, ?_⟩
          · unfold upW; rw [if_neg hm]; exact m2
          · unfold upW; rw [if_neg hm]; exact m4.step (fun j => g.j (by omega))
      · obtain ⟨a1, a2⟩ := laws (wI τ 138 2 (-1)) (fun a j h => by rw [zI_wI, if_neg (by omega)]) (fun _ _ => rfl)
        have g2 : Fz (fun x j => x = 176 + 2 * l.toNat ∨ (x = 138 ∧ j = 2)) σ (wI τ 138 2 (-1)) := (g.mono (fun a j w => Or.inl w)).tr (Fz.wI (Or.inr ⟨rfl, rfl⟩))
        refine q1 l0 l1 hc _ ⟨a1, a2, ?_, ?_⟩ (g2.mono (fun a j w => by omega))
        · unfold TabI
          rw [zI_wI, if_pos ⟨rfl, rfl⟩]
          exact ⟨by omega, by omega, Or.inl rfl⟩
        · exact g2.boxI (fun j => by omega) (fun j => by omega) co.2.2.2
    · simp only [zrI, zrL, zrR, ne_eq, true_and, and_true, true_or, or_true, not_true_eq_false, not_false_eq_true, false_and, and_false, forall_const, true_implies, false_implies, implies_true, reduceCtorEq, Int.reduceEq, Int.reduceNe, Int.reduceLT, Int.reduceLE, Int.reduceNeg, Nat.reduceEqDiff, if_true, if_false, reduceIte, Int.reduceMul, Int.reduceAdd, Int.reduceSub]
      exact q0 (Or.inr (Or.inr hc))
  · simp only [zrI, zrL, zrR, ne_eq, true_and, and_true, true_or, or_true, not_true_eq_false, not_false_eq_true, false_and, and_false, forall_const, true_implies, false_implies, implies_true, reduceCtorEq, Int.reduceEq, Int.reduceNe, Int.reduceLT, Int.reduceLE, Int.reduceNeg, Nat.reduceEqDiff, if_true, if_false, reduceIte, Int.reduceMul, Int.reduceAdd, Int.reduceSub]
    exact q0 (by omega)
def covN (w : LW) : Int := if w 0 = 3 then 60 else 400
theorem t_count {Q : ZQ} {σ : ZM} {L : Int → LW} {l n : Int} (hS : Shp σ) (co : CoI σ L)
    (q0 : (l < 0 ∨ 7 < l ∨ n < 0 ∨ covN (L l) < n) → Q (zl (Int64.ofNat 18446744073709551614)) σ) (q1 : 0 ≤ l → l ≤ 7 → 0 ≤ n → n ≤ covN (L l) → ∀ σ', CoI σ' L → Fz cof σ σ' → Q (zl (cntS (L l) n.toNat)) σ') : WP m_PP_count 0 [zr 2, zi l, zi n] [] σ (0, 0) Q := by
  refine r_PP_count_0 (t_isLaw (fun l0 l1 => ?_) (fun c => ?_))
  · have hl := isL_law l0 l1
    simp only [hS, hS.r4 l0 l1, (hS.lawO hl).1, zrI, zrL, zrR, Shp_wI, Shp_wJ, zR_wI, zR_wJ, zJ_wI, zI_wJ, zobj_wI, zobj_wJ, zarr_wI, zarr_wJ, zS_wI, zS_wJ, o_2, a_3, a_4, a_5, o_10, a_11, a_12, o_137, o_138, a_139, o_140, a_141, o_142, a_143, o_146, a_147, a_148, a_149, o_152, a_153, o_154, a_157, o_158, a_159, r_2_0, r_2_1, r_2_2, r_2_3, r_2_4, r_2_5, r_2_6, r_2_7, r_2_8, r_2_9, r_2_10, r_10_0, r_10_1, r_137_0, r_137_1, r_137_2, r_138_0, r_140_0, r_142_0, r_146_0, r_146_1, r_146_2, r_146_3, r_152_0, r_154_0, r_154_1, r_158_0, zrI, zrL, zrR, ne_eq, true_and, and_true, true_or, or_true, not_true_eq_false, not_false_eq_true, false_and, and_false, forall_const, true_implies, false_implies, implies_true, reduceCtorEq, Int.reduceEq, Int.reduceNe, Int.reduceLT, Int.reduceLE, Int.reduceNeg, Nat.reduceEqDiff, if_true, if_false, reduceIte, Int.reduceMul, Int.reduceAdd, Int.reduceSub]
    refine ⟨by omega, t_covers (hS.lawO hl).1 (co.1 l l0 l1).2 (fun n0 n1 => ?_) (fun c => ?_)⟩
    · simp only [hS, hS.r4 l0 l1, zrI, zrL, zrR, Shp_wI, Shp_wJ, zR_wI, zR_wJ, zJ_wI, zI_wJ, zobj_wI, zobj_wJ, zarr_wI, zarr_wJ, zS_wI, zS_wJ, o_2, a_3, a_4, a_5, o_10, a_11, a_12, o_137, o_138, a_139, o_140, a_141, o_142, a_143, o_146, a_147, a_148, a_149, o_152, a_153, o_154, a_157, o_158, a_159, r_2_0, r_2_1, r_2_2, r_2_3, r_2_4, r_2_5, r_2_6, r_2_7, r_2_8, r_2_9, r_2_10, r_10_0, r_10_1, r_137_0, r_137_1, r_137_2, r_138_0, r_140_0, r_142_0, r_146_0, r_146_1, r_146_2, r_146_3, r_152_0, r_154_0, r_154_1, r_158_0, zrI, zrL, zrR, ne_eq, true_and, and_true, true_or, or_true, not_true_eq_false, not_false_eq_true, false_and, and_false, forall_const, true_implies, false_implies, implies_true, reduceCtorEq, Int.reduceEq, Int.reduceNe, Int.reduceLT, Int.reduceLE, Int.reduceNeg, Nat.reduceEqDiff, if_true, if_false, reduceIte, Int.reduceMul, Int.reduceAdd, Int.reduceSub]
      exact ⟨by omega, t_waysOf hS co l0 l1 n0 n1 (fun τ w1 w2 => q1 l0 l1 n0 n1 τ w1 w2)⟩
    · simp only [zrI, zrL, zrR, ne_eq, true_and, and_true, true_or, or_true, not_true_eq_false, not_false_eq_true, false_and, and_false, forall_const, true_implies, false_implies, implies_true, reduceCtorEq, Int.reduceEq, Int.reduceNe, Int.reduceLT, Int.reduceLE, Int.reduceNeg, Nat.reduceEqDiff, if_true, if_false, reduceIte, Int.reduceMul, Int.reduceAdd, Int.reduceSub]
      exact q0 (Or.inr (Or.inr c))
  · simp only [zrI, zrL, zrR, ne_eq, true_and, and_true, true_or, or_true, not_true_eq_false, not_false_eq_true, false_and, and_false, forall_const, true_implies, false_implies, implies_true, reduceCtorEq, Int.reduceEq, Int.reduceNe, Int.reduceLT, Int.reduceLE, Int.reduceNeg, Nat.reduceEqDiff, if_true, if_false, reduceIte, Int.reduceMul, Int.reduceAdd, Int.reduceSub]
    exact q0 (by omega)
/-- a law's counts as a series -/
def cntR (w : LW) : SQ := fun n => if (n : Int) ≤ covN w then cntS w n else 0
abbrev ctf (a : Nat) (j : Int) : Prop := cof a j ∨ (6 ≤ a ∧ a ≤ 9)
theorem t_counts {Q : ZQ} {σ : ZM} {L : Int → LW} {R : Int → SQ} {x l : Int} (hS : Shp σ) (co : CoI σ L) (hR : RowsI σ R)
    (q0 : (x < 0 ∨ 3 < x ∨ l < 0 ∨ 7 < l) → Q (zi (-2)) σ) (q1 : 0 ≤ x → x ≤ 3 → 0 ≤ l → l ≤ 7 → ∀ σ', CoI σ' L → RowsI σ' (upR R x (cntR (L l))) → Fz ctf σ σ' → Q (zi 1) σ') : WP m_PP_counts 0 [zr 2, zi x, zi l, zu] [] σ (0, 0) Q := by
  refine r_PP_counts_0 (t_isSeries (fun x0 x1 => ?_) (fun c => ?_))
  · simp only [zrI, zrL, zrR, ne_eq, true_and, and_true, true_or, or_true, not_true_eq_false, not_false_eq_true, false_and, and_false, forall_const, true_implies, false_implies, implies_true, reduceCtorEq, Int.reduceEq, Int.reduceNe, Int.reduceLT, Int.reduceLE, Int.reduceNeg, Nat.reduceEqDiff, if_true, if_false, reduceIte, Int.reduceMul, Int.reduceAdd, Int.reduceSub]
    refine t_isLaw (fun l0 l1 => ?_) (fun c => ?_)
    · have hl := isL_law l0 l1
      simp only [zrI, zrL, zrR, ne_eq, true_and, and_true, true_or, or_true, not_true_eq_false, not_false_eq_true, false_and, and_false, forall_const, true_implies, false_implies, implies_true, reduceCtorEq, Int.reduceEq, Int.reduceNe, Int.reduceLT, Int.reduceLE, Int.reduceNeg, Nat.reduceEqDiff, if_true, if_false, reduceIte, Int.reduceMul, Int.reduceAdd, Int.reduceSub]
      have key : ∀ (m : Nat) (y : Int) (τ : ZM), y + 1 = m → y ≤ 400 → CoI τ L → (∀ i : Nat, i ≤ 400 → y < (i : Int) → zJ τ (6 + x.toNat) (i : Int) = cntR (L l) i) → Fz (fun a j => cof a j ∨ a = 6 + x.toNat) σ τ → WP m_PP_counts 21 [zr 2, zi x, zi l, zi y] [] τ (0, 0) Q := by
        intro m
        induction m with
        | zero =>
          intro y τ hy y4 c hv f
          refine r_PP_counts_21 ⟨fun _ => q1 x0 x1 l0 l1 τ c (fun z z0 z1 => ?_) (f.mono (fun a j w => by omega)), fun c => by omega⟩
          unfold upR
          by_cases e : z = x
          · rw [if_pos e, e]
            exact fun i hi => hv i hi (by omega)
          · rw [if_neg e]
            exact f.rv (fun j => by omega) (hR z z0 z1)
        | succ m ih =>
          intro y τ hy y4 c hv f
          have hT := f.shp hS
          obtain ⟨n, rfl⟩ := Int.eq_ofNat_of_zero_le (show 0 ≤ y by omega)
          have rw6 := hT.isRow x0 x1
          have go : ∀ (v : Int64) (υ : ZM), v = cntR (L l) n → CoI υ L → Fz cof τ υ → WP m_PP_counts 21 [zr 2, zi x, zi l, zi ((n : Int) + -1)] [] (wJ υ (6 + x.toNat) (n : Int) v) (0, 0) Q := fun v υ hvv c2 f2 => by
            have f3 : Fz (fun a j => a = 6 + x.toNat) υ (wJ υ (6 + x.toNat) (n : Int) v) := Fz.wJ rfl
            refine ih ((n : Int) + -1) _ (by omega) (by omega) (f3.coI (fun a j w => by omega) c2) (fun i hi hi2 => ?_) ((f.tr (f2.mono (fun a j w => Or.inl w))).tr (f3.mono (fun a j w => Or.inr w)))
            rw [zJ_wJ]
            by_cases e : i = n
            · rw [if_pos ⟨rfl, by omega⟩, e, hvv]
            · rw [if_neg (by omega), f2.j (by omega)]
              exact hv i hi (by omega)
          refine r_PP_counts_21 ?_
          simp only [hT, hT.r4 l0 l1, hT.r5 x0 x1, (hT.lawO hl).1, zrI, zrL, zrR, Shp_wI, Shp_wJ, zR_wI, zR_wJ, zJ_wI, zI_wJ, zobj_wI, zobj_wJ, zarr_wI, zarr_wJ, zS_wI, zS_wJ, o_2, a_3, a_4, a_5, o_10, a_11, a_12, o_137, o_138, a_139, o_140, a_141, o_142, a_143, o_146, a_147, a_148, a_149, o_152, a_153, o_154, a_157, o_158, a_159, r_2_0, r_2_1, r_2_2, r_2_3, r_2_4, r_2_5, r_2_6, r_2_7, r_2_8, r_2_9, r_2_10, r_10_0, r_10_1, r_137_0, r_137_1, r_137_2, r_138_0, r_140_0, r_142_0, r_146_0, r_146_1, r_146_2, r_146_3, r_152_0, r_154_0, r_154_1, r_158_0, zrI, zrL, zrR, ne_eq, true_and, and_true, true_or, or_true, not_true_eq_false, not_false_eq_true, false_and, and_false, forall_const, true_implies, false_implies, implies_true, reduceCtorEq, Int.reduceEq, Int.reduceNe, Int.reduceLT, Int.reduceLE, Int.reduceNeg, Nat.reduceEqDiff, if_true, if_false, reduceIte, Int.reduceMul, Int.reduceAdd, Int.reduceSub]
          refine ⟨fun c => by omega, fun _ => ⟨by omega, by omega, t_covers (hT.lawO hl).1 (c.1 l l0 l1).2 (fun n0 n1 => ?_) (fun cc => ?_)⟩⟩
          · simp only [hT, hT.r4 l0 l1, zrI, zrL, zrR, Shp_wI, Shp_wJ, zR_wI, zR_wJ, zJ_wI, zI_wJ, zobj_wI, zobj_wJ, zarr_wI, zarr_wJ, zS_wI, zS_wJ, o_2, a_3, a_4, a_5, o_10, a_11, a_12, o_137, o_138, a_139, o_140, a_141, o_142, a_143, o_146, a_147, a_148, a_149, o_152, a_153, o_154, a_157, o_158, a_159, r_2_0, r_2_1, r_2_2, r_2_3, r_2_4, r_2_5, r_2_6, r_2_7, r_2_8, r_2_9, r_2_10, r_10_0, r_10_1, r_137_0, r_137_1, r_137_2, r_138_0, r_140_0, r_142_0, r_146_0, r_146_1, r_146_2, r_146_3, r_152_0, r_154_0, r_154_1, r_158_0, zrI, zrL, zrR, ne_eq, true_and, and_true, true_or, or_true, not_true_eq_false, not_false_eq_true, false_and, and_false, forall_const, true_implies, false_implies, implies_true, reduceCtorEq, Int.reduceEq, Int.reduceNe, Int.reduceLT, Int.reduceLE, Int.reduceNeg, Nat.reduceEqDiff, if_true, if_false, reduceIte, Int.reduceMul, Int.reduceAdd, Int.reduceSub]
            refine ⟨by omega, t_waysOf hT c l0 l1 n0 n1 (fun υ w1 w2 => ?_)⟩
            have hU := w2.shp hT
            simp only [zrI, zrL, zrR, ne_eq, true_and, and_true, true_or, or_true, not_true_eq_false, not_false_eq_true, false_and, and_false, forall_const, true_implies, false_implies, implies_true, reduceCtorEq, Int.reduceEq, Int.reduceNe, Int.reduceLT, Int.reduceLE, Int.reduceNeg, Nat.reduceEqDiff, if_true, if_false, reduceIte, Int.reduceMul, Int.reduceAdd, Int.reduceSub]
            refine ⟨(hU.isRow x0 x1).arr (by omega) (by omega), by omega, go _ υ ?_ w1 w2⟩
            unfold cntR covN
            rw [if_pos n1, Int.toNat_natCast]
          · simp only [zrI, zrL, zrR, ne_eq, true_and, and_true, true_or, or_true, not_true_eq_false, not_false_eq_true, false_and, and_false, forall_const, true_implies, false_implies, implies_true, reduceCtorEq, Int.reduceEq, Int.reduceNe, Int.reduceLT, Int.reduceLE, Int.reduceNeg, Nat.reduceEqDiff, if_true, if_false, reduceIte, Int.reduceMul, Int.reduceAdd, Int.reduceSub]
            refine ⟨rw6.arr (by omega) (by omega), by omega, go _ τ ?_ c Fz.rf⟩
            unfold cntR
            rw [if_neg (by unfold covN; omega)]
      exact key 401 400 σ (by omega) (by omega) co (fun i hi hi2 => by omega) Fz.rf
    · simp only [zrI, zrL, zrR, ne_eq, true_and, and_true, true_or, or_true, not_true_eq_false, not_false_eq_true, false_and, and_false, forall_const, true_implies, false_implies, implies_true, reduceCtorEq, Int.reduceEq, Int.reduceNe, Int.reduceLT, Int.reduceLE, Int.reduceNeg, Nat.reduceEqDiff, if_true, if_false, reduceIte, Int.reduceMul, Int.reduceAdd, Int.reduceSub]
      exact q0 (by omega)
  · simp only [zrI, zrL, zrR, ne_eq, true_and, and_true, true_or, or_true, not_true_eq_false, not_false_eq_true, false_and, and_false, forall_const, true_implies, false_implies, implies_true, reduceCtorEq, Int.reduceEq, Int.reduceNe, Int.reduceLT, Int.reduceLE, Int.reduceNeg, Nat.reduceEqDiff, if_true, if_false, reduceIte, Int.reduceMul, Int.reduceAdd, Int.reduceSub]
    exact q0 (by omega)
