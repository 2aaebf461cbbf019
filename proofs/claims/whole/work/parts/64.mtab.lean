/-! the tables of the reference -/
theorem TB_lt {al : Nat → Bool} {c k n : Nat} (h : n < k + 1) : TB al c (k + 1) n = TB al c k n := by
  show TB al c k n + (if al (k + 1) then runs (TB al c k) (k + 1) n c else 0) = _
  rw [runs_lt h]
  split <;> rfl
def MTab (σ : ZM) (w : LW) : Prop := (w 0 ≠ 2 → ∀ v r : Nat, v ≤ 400 → r ≤ 400 → zJ σ 199 (401 * (v : Int) + (r : Int)) = Int64.ofNat (TB (alB w) (timesN w).toNat v r)) ∧ (w 0 = 2 → (∀ v r : Nat, v ≤ 400 → r ≤ 400 → zJ σ 199 (401 * (v : Int) + (r : Int)) = Int64.ofNat (gB (gapF w) (w 4).toNat v r)) ∧ ∀ v r : Nat, v ≤ 400 → r ≤ 400 → zJ σ 200 (401 * (v : Int) + (r : Int)) = if r = 0 then 0 else Int64.ofNat (GB (gapF w) (w 4).toNat v r))
/-- alike in kind and numbers -/
def sameW (w w' : LW) : Prop := w 0 = w' 0 ∧ w 1 = w' 1 ∧ w 2 = w' 2 ∧ w 3 = w' 3 ∧ w 4 = w' 4
theorem MTab.congr {σ : ZM} {w w' : LW} (h : sameW w w') (m : MTab σ w) : MTab σ w' := by
  obtain ⟨h0, h1, h2, h3, h4⟩ := h
  have e1 : alB w = alB w' := by funext v; unfold alB; rw [h0, h1, h2]
  have e2 : timesN w = timesN w' := by unfold timesN; rw [h0, h3]
  have e3 : gapF w = gapF w' := by funext v; unfold gapF gapN; rw [h1, h2, h3]
  unfold MTab at m ⊢
  rw [← h0, ← e1, ← e2, ← e3, ← h4]
  exact m
def MTabI (σ : ZM) : Prop := zI σ 192 9 = -1 ∨ ∃ w : LW, lawOK w ∧ w 0 ≤ 2 ∧ zI σ 192 9 = w 0 ∧ zI σ 192 10 = w 1 ∧ zI σ 192 11 = w 2 ∧ zI σ 192 12 = w 3 ∧ zI σ 192 13 = w 4 ∧ MTab σ w
theorem Fz.mtab {P : Nat → Int → Prop} {σ σ' : ZM} (f : Fz P σ σ') {w : LW} (h1 : ∀ j, ¬ P 199 j) (h2 : ∀ j, ¬ P 200 j) (m : MTab σ w) : MTab σ' w :=
  ⟨fun e v r hv hr => (f.j (h1 _)).trans (m.1 e v r hv hr), fun e => ⟨fun v r hv hr => (f.j (h1 _)).trans ((m.2 e).1 v r hv hr), fun v r hv hr => (f.j (h2 _)).trans ((m.2 e).2 v r hv hr)⟩⟩
theorem Fz.mtabI {P : Nat → Int → Prop} {σ σ' : ZM} (f : Fz P σ σ') (h0 : ∀ j, 9 ≤ j → j ≤ 13 → ¬ P 192 j) (h1 : ∀ j, ¬ P 199 j) (h2 : ∀ j, ¬ P 200 j) (m : MTabI σ) : MTabI σ' := by
  unfold MTabI
  rw [f.i (h0 9 (by omega) (by omega)), f.i (h0 10 (by omega) (by omega)), f.i (h0 11 (by omega) (by omega)), f.i (h0 12 (by omega) (by omega)), f.i (h0 13 (by omega) (by omega))]
  rcases m with e | ⟨w, a, b, c, d, e, g, h, i⟩
  · exact Or.inl e
  · exact Or.inr ⟨w, a, b, c, d, e, g, h, f.mtab h1 h2 i⟩
theorem t_mCell {Q : ZQ} {σ : ZM} {r v : Int} (hS : Shp σ) (v0 : 0 ≤ v) (v1 : v ≤ 400) (r1 : r ≤ 400) (q : Q (zl (if r < 0 then 0 else zJ σ 199 (401 * v + r))) σ) : WP m_Mod_cell 0 [zr 192, zi r, zi v] [] σ (0, 0) Q := by
  refine r_Mod_cell_0 ?_
  simp only [hS, zrI, zrL, zrR, Shp_wI, Shp_wJ, zR_wI, zR_wJ, zJ_wI, zI_wJ, zobj_wI, zobj_wJ, zarr_wI, zarr_wJ, zS_wI, zS_wJ, o_192, a_193, a_194, a_195, a_196, a_197, a_198, a_199, a_200, a_201, a_202, a_203, a_204, a_205, a_206, a_207, a_208, a_209, a_210, r_192_0, r_192_1, r_192_2, r_192_3, r_192_4, r_192_5, r_192_7, r_192_8, r_192_14, r_192_16, r_192_17, r_192_18, r_192_19, r_192_20, r_192_22, r_192_23, r_192_25, r_192_26, zrI, zrL, zrR, ne_eq, true_and, and_true, true_or, or_true, not_true_eq_false, not_false_eq_true, false_and, and_false, forall_const, true_implies, false_implies, implies_true, reduceCtorEq, Int.reduceEq, Int.reduceNe, Int.reduceLT, Int.reduceLE, Int.reduceNeg, Nat.reduceEqDiff, if_true, if_false, reduceIte, Int.reduceMul, Int.reduceAdd, Int.reduceSub]
  refine ⟨fun c => ⟨by omega, by omega, by omega, ?_⟩, fun c => ?_⟩
  · rw [if_neg (by omega)] at q; exact q
  · rw [if_pos c] at q; exact q
theorem t_mIsTable {Q : ZQ} {σ : ZM} {L : Int → LW} {l : Int} (hS : Shp σ) (mL : MLaw σ L) (mT : MTabI σ) (l0 : 0 ≤ l) (l1 : l ≤ 7) (q1 : MTab σ (L l) → Q (zi 1) σ) (q0 : Q (zi 0) σ) : WP m_Mod_isTable 0 [zr 192, zi l] [] σ (0, 0) Q := by
  have ok := (mL l l0 l1).1
  have hk : 0 ≤ L l 0 := by unfold lawOK canB at ok; omega
  refine r_Mod_isTable_0 ?_
  simp only [hS, zrI, zrL, zrR, Shp_wI, Shp_wJ, zR_wI, zR_wJ, zJ_wI, zI_wJ, zobj_wI, zobj_wJ, zarr_wI, zarr_wJ, zS_wI, zS_wJ, o_192, a_193, a_194, a_195, a_196, a_197, a_198, a_199, a_200, a_201, a_202, a_203, a_204, a_205, a_206, a_207, a_208, a_209, a_210, r_192_0, r_192_1, r_192_2, r_192_3, r_192_4, r_192_5, r_192_7, r_192_8, r_192_14, r_192_16, r_192_17, r_192_18, r_192_19, r_192_20, r_192_22, r_192_23, r_192_25, r_192_26, zrI, zrL, zrR, ne_eq, true_and, and_true, true_or, or_true, not_true_eq_false, not_false_eq_true, false_and, and_false, forall_const, true_implies, false_implies, implies_true, reduceCtorEq, Int.reduceEq, Int.reduceNe, Int.reduceLT, Int.reduceLE, Int.reduceNeg, Nat.reduceEqDiff, if_true, if_false, reduceIte, Int.reduceMul, Int.reduceAdd, Int.reduceSub]
  refine t_mKind hS mL l0 l1 ?_
  simp only [hS, zrI, zrL, zrR, Shp_wI, Shp_wJ, zR_wI, zR_wJ, zJ_wI, zI_wJ, zobj_wI, zobj_wJ, zarr_wI, zarr_wJ, zS_wI, zS_wJ, o_192, a_193, a_194, a_195, a_196, a_197, a_198, a_199, a_200, a_201, a_202, a_203, a_204, a_205, a_206, a_207, a_208, a_209, a_210, r_192_0, r_192_1, r_192_2, r_192_3, r_192_4, r_192_5, r_192_7, r_192_8, r_192_14, r_192_16, r_192_17, r_192_18, r_192_19, r_192_20, r_192_22, r_192_23, r_192_25, r_192_26, zrI, zrL, zrR, ne_eq, true_and, and_true, true_or, or_true, not_true_eq_false, not_false_eq_true, false_and, and_false, forall_const, true_implies, false_implies, implies_true, reduceCtorEq, Int.reduceEq, Int.reduceNe, Int.reduceLT, Int.reduceLE, Int.reduceNeg, Nat.reduceEqDiff, if_true, if_false, reduceIte, Int.reduceMul, Int.reduceAdd, Int.reduceSub]
  refine ⟨fun _ => q0, fun e9 => t_mNum hS mL l0 l1 (by omega) (by omega) ?_⟩
  simp only [hS, zrI, zrL, zrR, Shp_wI, Shp_wJ, zR_wI, zR_wJ, zJ_wI, zI_wJ, zobj_wI, zobj_wJ, zarr_wI, zarr_wJ, zS_wI, zS_wJ, o_192, a_193, a_194, a_195, a_196, a_197, a_198, a_199, a_200, a_201, a_202, a_203, a_204, a_205, a_206, a_207, a_208, a_209, a_210, r_192_0, r_192_1, r_192_2, r_192_3, r_192_4, r_192_5, r_192_7, r_192_8, r_192_14, r_192_16, r_192_17, r_192_18, r_192_19, r_192_20, r_192_22, r_192_23, r_192_25, r_192_26, zrI, zrL, zrR, ne_eq, true_and, and_true, true_or, or_true, not_true_eq_false, not_false_eq_true, false_and, and_false, forall_const, true_implies, false_implies, implies_true, reduceCtorEq, Int.reduceEq, Int.reduceNe, Int.reduceLT, Int.reduceLE, Int.reduceNeg, Nat.reduceEqDiff, if_true, if_false, reduceIte, Int.reduceMul, Int.reduceAdd, Int.reduceSub]
  refine ⟨fun _ => q0, fun e10 => t_mNum hS mL l0 l1 (by omega) (by omega) ?_⟩
  simp only [hS, zrI, zrL, zrR, Shp_wI, Shp_wJ, zR_wI, zR_wJ, zJ_wI, zI_wJ, zobj_wI, zobj_wJ, zarr_wI, zarr_wJ, zS_wI, zS_wJ, o_192, a_193, a_194, a_195, a_196, a_197, a_198, a_199, a_200, a_201, a_202, a_203, a_204, a_205, a_206, a_207, a_208, a_209, a_210, r_192_0, r_192_1, r_192_2, r_192_3, r_192_4, r_192_5, r_192_7, r_192_8, r_192_14, r_192_16, r_192_17, r_192_18, r_192_19, r_192_20, r_192_22, r_192_23, r_192_25, r_192_26, zrI, zrL, zrR, ne_eq, true_and, and_true, true_or, or_true, not_true_eq_false, not_false_eq_true, false_and, and_false, forall_const, true_implies, false_implies, implies_true, reduceCtorEq, Int.reduceEq, Int.reduceNe, Int.reduceLT, Int.reduceLE, Int.reduceNeg, Nat.reduceEqDiff, if_true, if_false, reduceIte, Int.reduceMul, Int.reduceAdd, Int.reduceSub]
  refine ⟨fun _ => q0, fun e11 => t_mNum hS mL l0 l1 (by omega) (by omega) ?_⟩
  simp only [hS, zrI, zrL, zrR, Shp_wI, Shp_wJ, zR_wI, zR_wJ, zJ_wI, zI_wJ, zobj_wI, zobj_wJ, zarr_wI, zarr_wJ, zS_wI, zS_wJ, o_192, a_193, a_194, a_195, a_196, a_197, a_198, a_199, a_200, a_201, a_202, a_203, a_204, a_205, a_206, a_207, a_208, a_209, a_210, r_192_0, r_192_1, r_192_2, r_192_3, r_192_4, r_192_5, r_192_7, r_192_8, r_192_14, r_192_16, r_192_17, r_192_18, r_192_19, r_192_20, r_192_22, r_192_23, r_192_25, r_192_26, zrI, zrL, zrR, ne_eq, true_and, and_true, true_or, or_true, not_true_eq_false, not_false_eq_true, false_and, and_false, forall_const, true_implies, false_implies, implies_true, reduceCtorEq, Int.reduceEq, Int.reduceNe, Int.reduceLT, Int.reduceLE, Int.reduceNeg, Nat.reduceEqDiff, if_true, if_false, reduceIte, Int.reduceMul, Int.reduceAdd, Int.reduceSub]
  refine ⟨fun _ => q0, fun e12 => t_mNum hS mL l0 l1 (by omega) (by omega) ?_⟩
  simp only [hS, zrI, zrL, zrR, Shp_wI, Shp_wJ, zR_wI, zR_wJ, zJ_wI, zI_wJ, zobj_wI, zobj_wJ, zarr_wI, zarr_wJ, zS_wI, zS_wJ, o_192, a_193, a_194, a_195, a_196, a_197, a_198, a_199, a_200, a_201, a_202, a_203, a_204, a_205, a_206, a_207, a_208, a_209, a_210, r_192_0, r_192_1, r_192_2, r_192_3, r_192_4, r_192_5, r_192_7, r_192_8, r_192_14, r_192_16, r_192_17, r_192_18, r_192_19, r_192_20, r_192_22, r_192_23, r_192_25, r_192_26, zrI, zrL, zrR, ne_eq, true_and, and_true, true_or, or_true, not_true_eq_false, not_false_eq_true, false_and, and_false, forall_const, true_implies, false_implies, implies_true, reduceCtorEq, Int.reduceEq, Int.reduceNe, Int.reduceLT, Int.reduceLE, Int.reduceNeg, Nat.reduceEqDiff, if_true, if_false, reduceIte, Int.reduceMul, Int.reduceAdd, Int.reduceSub]
  refine ⟨fun _ => q0, fun e13 => q1 ?_⟩
  rcases mT with e | ⟨w, a1, a2, a3, a4, a5, a6, a7, a8⟩
  · omega
  · exact a8.congr ⟨by omega, by omega, by omega, by omega, by omega⟩
theorem t_mBelow {Q : ZQ} {σ : ZM} {L : Int → LW} {l : Int} (hS : Shp σ) (mL : MLaw σ L) (l0 : 0 ≤ l) (l1 : l ≤ 7) (hk : L l 0 = 0 ∨ L l 0 = 1) (q : ∀ σ', MTab σ' (L l) → Fr (fun a => a = 199) σ σ' → Q zu σ') : WP m_Mod_makeBelow 0 [zr 192, zi l, zu, zu, zu, zu, zu, zu] [] σ (0, 0) Q := by
  have ok := (mL l l0 l1).1
  have ht := timesN_bd ok hk
  generalize hw : L l = w at *
  have inner : ∀ (v : Nat), 1 ≤ v → v ≤ 400 → ∀ b : Int, (b = 1 ∧ alB w v = true ∨ b = 0 ∧ alB w v = false) →
      (∀ (τ : ZM) (u4 u5 u6 u7 : PV), (∀ v' r : Nat, v' < v + 1 → r ≤ 400 → zJ τ 199 (401 * (v' : Int) + (r : Int)) = Int64.ofNat (TB (alB w) (timesN w).toNat v' r)) → Fr (fun a => a = 199) σ τ → WP m_Mod_makeBelow 38 [zr 192, zi l, zi (timesN w), zi ((v : Int) + 1), u4, u5, u6, u7] [] τ (0, 0) Q) →
      ∀ (m r : Nat) (τ : ZM) (u6 u7 : PV), r + m = 401 → (∀ v' r' : Nat, v' < v → r' ≤ 400 → zJ τ 199 (401 * (v' : Int) + (r' : Int)) = Int64.ofNat (TB (alB w) (timesN w).toNat v' r')) → (∀ r' : Nat, r' < r → zJ τ 199 (401 * (v : Int) + (r' : Int)) = Int64.ofNat (TB (alB w) (timesN w).toNat v r')) → Fr (fun a => a = 199) σ τ → WP m_Mod_makeBelow 56 [zr 192, zi l, zi (timesN w), zi (v : Int), zi b, zi (r : Int), u6, u7] [] τ (0, 0) Q := by
    intro v v1 v4 b hb next m
    obtain ⟨k, rfl⟩ : ∃ k, v = k + 1 := ⟨v - 1, by omega⟩
    have ek : ((k + 1 : Nat) : Int) - 1 = (k : Int) := by omega
    induction m with
    | zero =>
      intro r τ u6 u7 hm hv hr f
      refine r_Mod_makeBelow_56 ⟨fun _ => ⟨by omega, next τ _ _ _ _ (fun v' r' h1 h2 => ?_) f⟩, fun c => by omega⟩
      by_cases e : v' = k + 1
      · rw [e]; exact hr r' (by omega)
      · exact hv v' r' (by omega) h2
    | succ m ih =>
      intro r τ u6 u7 hm hv hr f
      have hT := f.shp hS
      have go : ∀ (x : Int64) (u6 u7 : PV), x = Int64.ofNat (TB (alB w) (timesN w).toNat (k + 1) r) → WP m_Mod_makeBelow 56 [zr 192, zi l, zi (timesN w), zi ((k + 1 : Nat) : Int), zi b, zi ((r : Int) + 1), u6, u7] [] (wJ τ 199 (401 * ((k + 1 : Nat) : Int) + (r : Int)) x) (0, 0) Q := fun x u6 u7 hx => by
        have := ih (r + 1) (wJ τ 199 (401 * ((k + 1 : Nat) : Int) + (r : Int)) x) u6 u7 (by omega) (fun v' r' h1 h2 => ?_) (fun r' h1 => ?_) (f.tr (Fr.wJ rfl))
        · rw [Int.natCast_succ r] at this
          exact this
        · rw [zJ_wJ, if_neg (by omega)]
          exact hv v' r' h1 h2
        · rw [zJ_wJ]
          by_cases e : r' = r
          · rw [if_pos ⟨rfl, by omega⟩, e, hx]
          · rw [if_neg (by omega)]
            exact hr r' (by omega)
      have c0 := hv k r (by omega) (by omega)
      refine r_Mod_makeBelow_56 ?_
      simp only [hT, ek, zrI, zrL, zrR, Shp_wI, Shp_wJ, zR_wI, zR_wJ, zJ_wI, zI_wJ, zobj_wI, zobj_wJ, zarr_wI, zarr_wJ, zS_wI, zS_wJ, o_192, a_193, a_194, a_195, a_196, a_197, a_198, a_199, a_200, a_201, a_202, a_203, a_204, a_205, a_206, a_207, a_208, a_209, a_210, r_192_0, r_192_1, r_192_2, r_192_3, r_192_4, r_192_5, r_192_7, r_192_8, r_192_14, r_192_16, r_192_17, r_192_18, r_192_19, r_192_20, r_192_22, r_192_23, r_192_25, r_192_26, zrI, zrL, zrR, ne_eq, true_and, and_true, true_or, or_true, not_true_eq_false, not_false_eq_true, false_and, and_false, forall_const, true_implies, false_implies, implies_true, reduceCtorEq, Int.reduceEq, Int.reduceNe, Int.reduceLT, Int.reduceLE, Int.reduceNeg, Nat.reduceEqDiff, if_true, if_false, reduceIte, Int.reduceMul, Int.reduceAdd, Int.reduceSub]
      refine ⟨fun c => by omega, fun _ => ⟨by omega, t_mCell hT (by omega) (by omega) (by omega) ?_⟩⟩
      rw [if_neg (by omega), c0]
      simp only [hT, zrI, zrL, zrR, Shp_wI, Shp_wJ, zR_wI, zR_wJ, zJ_wI, zI_wJ, zobj_wI, zobj_wJ, zarr_wI, zarr_wJ, zS_wI, zS_wJ, o_192, a_193, a_194, a_195, a_196, a_197, a_198, a_199, a_200, a_201, a_202, a_203, a_204, a_205, a_206, a_207, a_208, a_209, a_210, r_192_0, r_192_1, r_192_2, r_192_3, r_192_4, r_192_5, r_192_7, r_192_8, r_192_14, r_192_16, r_192_17, r_192_18, r_192_19, r_192_20, r_192_22, r_192_23, r_192_25, r_192_26, zrI, zrL, zrR, ne_eq, true_and, and_true, true_or, or_true, not_true_eq_false, not_false_eq_true, false_and, and_false, forall_const, true_implies, false_implies, implies_true, reduceCtorEq, Int.reduceEq, Int.reduceNe, Int.reduceLT, Int.reduceLE, Int.reduceNeg, Nat.reduceEqDiff, if_true, if_false, reduceIte, Int.reduceMul, Int.reduceAdd, Int.reduceSub]
      refine ⟨fun e => ⟨by omega, by omega, by omega, by omega, go _ _ _ ?_⟩, fun e => ⟨fun e2 => ⟨by omega, by omega, by omega, by omega, go _ _ _ ?_⟩, fun e2 => ⟨by omega, t_mCell hT (by omega) (by omega) (by omega) ?_⟩⟩⟩
      · rw [TB_no (by rcases hb with ⟨b1, b2⟩ | ⟨b1, b2⟩; omega; exact b2)]
      · rw [TB_lt (by omega)]
      · have ha : alB w (k + 1) = true := by rcases hb with ⟨b1, b2⟩ | ⟨b1, b2⟩; exact b2; omega
        have hrec := TB_rec (c := (timesN w).toNat) ha (show k + 1 ≤ r by omega)
        have c1 := hr (r - (k + 1)) (by omega)
        rw [show ((r - (k + 1) : Nat) : Int) = (r : Int) - ((k + 1 : Nat) : Int) by omega] at c1
        rw [if_neg (by omega), c1]
        simp only [hT, zrI, zrL, zrR, Shp_wI, Shp_wJ, zR_wI, zR_wJ, zJ_wI, zI_wJ, zobj_wI, zobj_wJ, zarr_wI, zarr_wJ, zS_wI, zS_wJ, o_192, a_193, a_194, a_195, a_196, a_197, a_198, a_199, a_200, a_201, a_202, a_203, a_204, a_205, a_206, a_207, a_208, a_209, a_210, r_192_0, r_192_1, r_192_2, r_192_3, r_192_4, r_192_5, r_192_7, r_192_8, r_192_14, r_192_16, r_192_17, r_192_18, r_192_19, r_192_20, r_192_22, r_192_23, r_192_25, r_192_26, zrI, zrL, zrR, ne_eq, true_and, and_true, true_or, or_true, not_true_eq_false, not_false_eq_true, false_and, and_false, forall_const, true_implies, false_implies, implies_true, reduceCtorEq, Int.reduceEq, Int.reduceNe, Int.reduceLT, Int.reduceLE, Int.reduceNeg, Nat.reduceEqDiff, if_true, if_false, reduceIte, Int.reduceMul, Int.reduceAdd, Int.reduceSub]
        have hmul : (timesN w + 1) * ((k : Int) + 1) ≤ 401 * 400 ∧ 0 ≤ (timesN w + 1) * ((k : Int) + 1) := ⟨Int.mul_le_mul (by omega) (by omega) (by omega) (by omega), Int.mul_nonneg (by omega) (by omega)⟩
        have hc : (((timesN w).toNat + 1) * (k + 1) : Nat) = (timesN w + 1) * ((k : Int) + 1) := by
          rw [Int.natCast_mul, Int.natCast_succ, Int.natCast_succ, Int.toNat_of_nonneg (by omega)]
        have fin : ∀ d : Nat, TB (alB w) (timesN w).toNat (k + 1) r + d = TB (alB w) (timesN w).toNat k r + TB (alB w) (timesN w).toNat (k + 1) (r - (k + 1)) → Int64.ofNat (TB (alB w) (timesN w).toNat k r) + Int64.ofNat (TB (alB w) (timesN w).toNat (k + 1) (r - (k + 1))) - Int64.ofNat d = Int64.ofNat (TB (alB w) (timesN w).toNat (k + 1) r) := fun d hd => by
          have := sub_of hd
          grind
        have fin0 : TB (alB w) (timesN w).toNat (k + 1) r + 0 = TB (alB w) (timesN w).toNat k r + TB (alB w) (timesN w).toNat (k + 1) (r - (k + 1)) → Int64.ofNat (TB (alB w) (timesN w).toNat k r) + Int64.ofNat (TB (alB w) (timesN w).toNat (k + 1) (r - (k + 1))) = Int64.ofNat (TB (alB w) (timesN w).toNat (k + 1) r) := fun hd => by
          rw [← Int64.ofNat_add, ← hd, Nat.add_zero]
        have go2 : ∀ (x : Int64) (u6 u7 : PV), x = Int64.ofNat (TB (alB w) (timesN w).toNat (k + 1) r) → WP m_Mod_makeBelow 56 [zr 192, zi l, zi (timesN w), zi ((k : Int) + 1), zi b, zi ((r : Int) + 1), u6, u7] [] (wJ τ 199 (401 * ((k : Int) + 1) + (r : Int)) x) (0, 0) Q := fun x u6 u7 hx => by
          have := go x u6 u7 hx
          rw [Int.natCast_succ k] at this
          exact this
        rw [Int.natCast_succ k]
        refine ⟨fun c4 => ⟨by omega, by omega, by omega, by omega, ?_⟩, fun c4 => ⟨by omega, by omega, by omega, fun c5 => ⟨by omega, by omega, by omega, by omega, ?_⟩, fun c5 => ⟨by omega, by omega, by omega, by omega, t_mCell hT (by omega) (by omega) (by omega) ?_⟩⟩⟩
        · have hz : ¬ ((timesN w).toNat + 1) * (k + 1) ≤ r := by
            have := Nat.mul_le_mul (show 401 ≤ (timesN w).toNat + 1 by omega) (show 1 ≤ k + 1 by omega)
            omega
          rw [if_neg hz] at hrec
          exact go2 _ _ _ (fin0 hrec)
        · rw [if_neg (by omega)] at hrec
          exact go2 _ _ _ (fin0 hrec)
        · rw [if_pos (by omega)] at hrec
          have c2 := hv k (r - ((timesN w).toNat + 1) * (k + 1)) (by omega) (by omega)
          rw [show ((r - ((timesN w).toNat + 1) * (k + 1) : Nat) : Int) = (r : Int) - (timesN w + 1) * ((k : Int) + 1) by omega] at c2
          rw [if_neg (by omega), c2]
          simp only [hT, zrI, zrL, zrR, Shp_wI, Shp_wJ, zR_wI, zR_wJ, zJ_wI, zI_wJ, zobj_wI, zobj_wJ, zarr_wI, zarr_wJ, zS_wI, zS_wJ, o_192, a_193, a_194, a_195, a_196, a_197, a_198, a_199, a_200, a_201, a_202, a_203, a_204, a_205, a_206, a_207, a_208, a_209, a_210, r_192_0, r_192_1, r_192_2, r_192_3, r_192_4, r_192_5, r_192_7, r_192_8, r_192_14, r_192_16, r_192_17, r_192_18, r_192_19, r_192_20, r_192_22, r_192_23, r_192_25, r_192_26, zrI, zrL, zrR, ne_eq, true_and, and_true, true_or, or_true, not_true_eq_false, not_false_eq_true, false_and, and_false, forall_const, true_implies, false_implies, implies_true, reduceCtorEq, Int.reduceEq, Int.reduceNe, Int.reduceLT, Int.reduceLE, Int.reduceNeg, Nat.reduceEqDiff, if_true, if_false, reduceIte, Int.reduceMul, Int.reduceAdd, Int.reduceSub]
          refine ⟨by omega, by omega, by omega, by omega, ?_⟩
          exact go2 _ _ _ (fin _ hrec)
  have outer : ∀ (m v : Nat) (τ : ZM) (u4 u5 u6 u7 : PV), v + m = 401 → 1 ≤ v → (∀ v' r : Nat, v' < v → r ≤ 400 → zJ τ 199 (401 * (v' : Int) + (r : Int)) = Int64.ofNat (TB (alB w) (timesN w).toNat v' r)) → Fr (fun a => a = 199) σ τ → WP m_Mod_makeBelow 38 [zr 192, zi l, zi (timesN w), zi (v : Int), u4, u5, u6, u7] [] τ (0, 0) Q := by
    intro m
    induction m with
    | zero =>
      intro v τ u4 u5 u6 u7 hm v1 hv f
      refine r_Mod_makeBelow_38 ⟨fun _ => q τ ⟨fun _ v' r' h1 h2 => hv v' r' (by omega) h2, fun e => by omega⟩ f, fun c => by omega⟩
    | succ m ih =>
      intro v τ u4 u5 u6 u7 hm v1 hv f
      have hT := f.shp hS
      have mT : MLaw τ L := (f.z (P' := fun a _ => a = 199) (fun a j w => w)).mlaw (fun j => by omega) mL
      refine r_Mod_makeBelow_38 ?_
      simp only [hT, zrI, zrL, zrR, Shp_wI, Shp_wJ, zR_wI, zR_wJ, zJ_wI, zI_wJ, zobj_wI, zobj_wJ, zarr_wI, zarr_wJ, zS_wI, zS_wJ, o_192, a_193, a_194, a_195, a_196, a_197, a_198, a_199, a_200, a_201, a_202, a_203, a_204, a_205, a_206, a_207, a_208, a_209, a_210, r_192_0, r_192_1, r_192_2, r_192_3, r_192_4, r_192_5, r_192_7, r_192_8, r_192_14, r_192_16, r_192_17, r_192_18, r_192_19, r_192_20, r_192_22, r_192_23, r_192_25, r_192_26, zrI, zrL, zrR, ne_eq, true_and, and_true, true_or, or_true, not_true_eq_false, not_false_eq_true, false_and, and_false, forall_const, true_implies, false_implies, implies_true, reduceCtorEq, Int.reduceEq, Int.reduceNe, Int.reduceLT, Int.reduceLE, Int.reduceNeg, Nat.reduceEqDiff, if_true, if_false, reduceIte, Int.reduceMul, Int.reduceAdd, Int.reduceSub]
      have nx : ∀ b : Int, (b = 1 ∧ alB w v = true ∨ b = 0 ∧ alB w v = false) → WP m_Mod_makeBelow 56 [zr 192, zi l, zi (timesN w), zi (v : Int), zi b, zi 0, u6, u7] [] τ (0, 0) Q := fun b hb =>
        inner v v1 (by omega) b hb (fun τ' a1 a2 a3 a4 h1 h2 => by
          have := ih (v + 1) τ' a1 a2 a3 a4 (by omega) (by omega) h1 h2
          rw [Int.natCast_succ] at this
          exact this) 401 0 τ _ _ (by omega) hv (fun r' h => by omega) f
      refine ⟨fun c => by omega, fun _ => t_mLets hT mT l0 l1 (by rw [hw]; exact hk) (by omega) (by omega) (fun ha => ?_) (fun ha => ?_)⟩
      · rw [hw] at ha
        exact nx 1 (Or.inl ⟨rfl, alB_iff.mpr ha⟩)
      · rw [hw] at ha
        exact nx 0 (Or.inr ⟨rfl, alB_not.mpr ha⟩)
  have first : ∀ (m r : Nat) (τ : ZM) (u4 u5 u6 u7 : PV), r + m = 401 → (∀ r' : Nat, r' < r → zJ τ 199 (r' : Int) = Int64.ofNat (if r' = 0 then 1 else 0)) → Fr (fun a => a = 199) σ τ → WP m_Mod_makeBelow 8 [zr 192, zi l, zi (timesN w), zi (r : Int), u4, u5, u6, u7] [] τ (0, 0) Q := by
    intro m
    induction m with
    | zero =>
      intro r τ u4 u5 u6 u7 hm hv f
      refine r_Mod_makeBelow_8 ⟨fun _ => outer 400 1 τ _ _ _ _ (by omega) (by omega) (fun v' r' h1 h2 => ?_) f, fun c => by omega⟩
      have := hv r' (by omega)
      rw [show 401 * (v' : Int) + (r' : Int) = (r' : Int) by omega, show v' = 0 by omega, this]
      rfl
    | succ m ih =>
      intro r τ u4 u5 u6 u7 hm hv f
      have go : ∀ x : Int64, x = Int64.ofNat (if r = 0 then 1 else 0) → WP m_Mod_makeBelow 8 [zr 192, zi l, zi (timesN w), zi ((r : Int) + 1), u4, u5, u6, u7] [] (wJ τ 199 (r : Int) x) (0, 0) Q := fun x hx => by
        have := ih (r + 1) (wJ τ 199 (r : Int) x) u4 u5 u6 u7 (by omega) (fun r' h1 => ?_) (f.tr (Fr.wJ rfl))
        · rw [Int.natCast_succ] at this
          exact this
        · rw [zJ_wJ]
          by_cases e : r' = r
          · rw [if_pos ⟨rfl, by omega⟩, e, hx]
          · rw [if_neg (by omega)]
            exact hv r' (by omega)
      refine r_Mod_makeBelow_8 ?_
      simp only [f.shp hS, zrI, zrL, zrR, Shp_wI, Shp_wJ, zR_wI, zR_wJ, zJ_wI, zI_wJ, zobj_wI, zobj_wJ, zarr_wI, zarr_wJ, zS_wI, zS_wJ, o_192, a_193, a_194, a_195, a_196, a_197, a_198, a_199, a_200, a_201, a_202, a_203, a_204, a_205, a_206, a_207, a_208, a_209, a_210, r_192_0, r_192_1, r_192_2, r_192_3, r_192_4, r_192_5, r_192_7, r_192_8, r_192_14, r_192_16, r_192_17, r_192_18, r_192_19, r_192_20, r_192_22, r_192_23, r_192_25, r_192_26, zrI, zrL, zrR, ne_eq, true_and, and_true, true_or, or_true, not_true_eq_false, not_false_eq_true, false_and, and_false, forall_const, true_implies, false_implies, implies_true, reduceCtorEq, Int.reduceEq, Int.reduceNe, Int.reduceLT, Int.reduceLE, Int.reduceNeg, Nat.reduceEqDiff, if_true, if_false, reduceIte, Int.reduceMul, Int.reduceAdd, Int.reduceSub]
      refine ⟨fun c => by omega, fun _ => ⟨fun c => ⟨by omega, by omega, go 0 ?_⟩, fun c => ⟨by omega, by omega, go 1 ?_⟩⟩⟩
      · rw [if_neg (by omega)]; rfl
      · rw [if_pos (by omega)]; rfl
  refine r_Mod_makeBelow_0 ?_
  simp only [hS, zrI, zrL, zrR, Shp_wI, Shp_wJ, zR_wI, zR_wJ, zJ_wI, zI_wJ, zobj_wI, zobj_wJ, zarr_wI, zarr_wJ, zS_wI, zS_wJ, o_192, a_193, a_194, a_195, a_196, a_197, a_198, a_199, a_200, a_201, a_202, a_203, a_204, a_205, a_206, a_207, a_208, a_209, a_210, r_192_0, r_192_1, r_192_2, r_192_3, r_192_4, r_192_5, r_192_7, r_192_8, r_192_14, r_192_16, r_192_17, r_192_18, r_192_19, r_192_20, r_192_22, r_192_23, r_192_25, r_192_26, zrI, zrL, zrR, ne_eq, true_and, and_true, true_or, or_true, not_true_eq_false, not_false_eq_true, false_and, and_false, forall_const, true_implies, false_implies, implies_true, reduceCtorEq, Int.reduceEq, Int.reduceNe, Int.reduceLT, Int.reduceLE, Int.reduceNeg, Nat.reduceEqDiff, if_true, if_false, reduceIte, Int.reduceMul, Int.reduceAdd, Int.reduceSub]
  refine t_mTimes hS mL l0 l1 ?_
  rw [hw]
  exact first 401 0 σ _ _ _ _ (by omega) (fun r' h => by omega) Fr.rf
