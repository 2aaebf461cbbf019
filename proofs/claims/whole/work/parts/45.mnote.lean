/-! the reference: give, note, set -/
def MSu (σ : ZM) (u : Int) (l : List Int) : Prop := zI σ 195 u = (l.length : Int) ∧ l.length ≤ 400 ∧ ∀ i : Int, 0 ≤ i → i < (l.length : Int) → zI σ 194 (400 * u + i) = ga l i
theorem t_mGive_8 {Q : ZQ} {M : Int → List Int} {s t : Int} (s0 : 0 ≤ s) (s1 : s ≤ 10) (t0 : 0 ≤ t) (t1 : t ≤ 10) (ne : s ≠ t) : ∀ (k : Nat) (i : Int) (σ : ZM), 0 ≤ i → i + k = ((M s).length : Int) → Shp σ → (∀ u, 0 ≤ u → u ≤ 10 → u ≠ t → MSu σ u (M u)) → (∀ j, 0 ≤ j → j < i → zI σ 194 (400 * t + j) = ga (M s) j) → (∀ σ', MS σ' (upS M t (M s)) → Fr mfr σ σ' → Q zu σ') → WP m_Mod_give 8 [zr 192, zi t, zi s, zi i] [] σ (0, 0) Q
  | 0, i, σ, i0, hk, hS, hm, hc, q => by
    obtain ⟨g1, g2, g3⟩ := hm s s0 s1 ne
    refine r_Mod_give_8 ?_
    simp only [hS, g1, zrI, zrL, zrR, Shp_wI, Shp_wJ, zR_wI, zR_wJ, zJ_wI, zI_wJ, zobj_wI, zobj_wJ, zarr_wI, zarr_wJ, zS_wI, zS_wJ, o_192, a_193, a_194, a_195, a_196, a_197, a_198, a_199, a_200, a_201, a_202, a_203, a_204, a_205, a_206, a_207, a_208, a_209, a_210, r_192_0, r_192_1, r_192_2, r_192_3, r_192_4, r_192_5, r_192_7, r_192_8, r_192_14, r_192_16, r_192_17, r_192_18, r_192_19, r_192_20, r_192_22, r_192_23, r_192_25, r_192_26, zrI, zrL, zrR, ne_eq, true_and, and_true, true_or, or_true, not_true_eq_false, not_false_eq_true, false_and, and_false, forall_const, true_implies, false_implies, implies_true, reduceCtorEq, Int.reduceEq, Int.reduceNe, Int.reduceLT, Int.reduceLE, Int.reduceNeg, Nat.reduceEqDiff, if_true, if_false, reduceIte, Int.reduceMul, Int.reduceAdd, Int.reduceSub]
    repeat' first | omega | exact Or.inl (by omega) | apply And.intro | refine fun (_ : _ ≤ _) => ?_ | refine fun (_ : _ < _) => ?_ | refine fun (_ : _ = _) => ?_ | refine fun (_ : ¬ (_ = _)) => ?_ | refine fun (_ : _ ∨ _) => ?_
    refine q _ (fun u u0 u1 => ?_) (Fr.wI (Or.inr rfl))
    unfold upS
    by_cases e : u = t
    · rw [if_pos e, e]
      refine ⟨by rw [zI_wI, if_pos ⟨rfl, rfl⟩], g2, fun j j0 j1 => ?_⟩
      rw [zI_wI, if_neg (by omega)]
      exact hc j j0 (by omega)
    · rw [if_neg e]
      obtain ⟨h1, h2, h3⟩ := hm u u0 u1 e
      exact ⟨by rw [zI_wI, if_neg (by omega)]; exact h1, h2, fun j j0 j1 => by rw [zI_wI, if_neg (by omega)]; exact h3 j j0 j1⟩
  | k + 1, i, σ, i0, hk, hS, hm, hc, q => by
    obtain ⟨g1, g2, g3⟩ := hm s s0 s1 ne
    refine r_Mod_give_8 ?_
    simp only [hS, g1, zrI, zrL, zrR, Shp_wI, Shp_wJ, zR_wI, zR_wJ, zJ_wI, zI_wJ, zobj_wI, zobj_wJ, zarr_wI, zarr_wJ, zS_wI, zS_wJ, o_192, a_193, a_194, a_195, a_196, a_197, a_198, a_199, a_200, a_201, a_202, a_203, a_204, a_205, a_206, a_207, a_208, a_209, a_210, r_192_0, r_192_1, r_192_2, r_192_3, r_192_4, r_192_5, r_192_7, r_192_8, r_192_14, r_192_16, r_192_17, r_192_18, r_192_19, r_192_20, r_192_22, r_192_23, r_192_25, r_192_26, zrI, zrL, zrR, ne_eq, true_and, and_true, true_or, or_true, not_true_eq_false, not_false_eq_true, false_and, and_false, forall_const, true_implies, false_implies, implies_true, reduceCtorEq, Int.reduceEq, Int.reduceNe, Int.reduceLT, Int.reduceLE, Int.reduceNeg, Nat.reduceEqDiff, if_true, if_false, reduceIte, Int.reduceMul, Int.reduceAdd, Int.reduceSub]
    repeat' first | omega | exact Or.inl (by omega) | apply And.intro | refine fun (_ : _ ≤ _) => ?_ | refine fun (_ : _ < _) => ?_ | refine fun (_ : _ = _) => ?_ | refine fun (_ : ¬ (_ = _)) => ?_ | refine fun (_ : _ ∨ _) => ?_
    refine t_mGive_8 s0 s1 t0 t1 ne k (i + 1) _ (by omega) (by omega) hS (fun u u0 u1 e => ?_) (fun j j0 j1 => ?_) (fun σ' k1 k2 => q σ' k1 ((Fr.wI (Or.inl rfl)).tr k2))
    · obtain ⟨h1, h2, h3⟩ := hm u u0 u1 e
      exact ⟨by rw [zI_wI, if_neg (by omega)]; exact h1, h2, fun j j0 j1 => by rw [zI_wI, if_neg (by omega)]; exact h3 j j0 j1⟩
    · rw [zI_wI]
      by_cases e : j = i
      · rw [e, if_pos ⟨rfl, rfl⟩]; exact g3 i i0 (by omega)
      · rw [if_neg (by omega)]; exact hc j j0 (by omega)
theorem t_mGive {Q : ZQ} {σ : ZM} {M : Int → List Int} {s t : Int} (hS : Shp σ) (m : MS σ M) (s0 : 0 ≤ s) (s1 : s ≤ 10) (t0 : 0 ≤ t) (t1 : t ≤ 10) (q : ∀ σ', MS σ' (upS M t (M s)) → Fr mfr σ σ' → Q zu σ') : WP m_Mod_give 0 [zr 192, zi t, zi s, zu] [] σ (0, 0) Q := by
  refine r_Mod_give_0 ⟨fun c => t_mGive_8 s0 s1 t0 t1 (fun e => c e.symm) (M s).length 0 σ (by omega) (by omega) hS (fun u u0 u1 _ => m u u0 u1) (fun j j0 j1 => by omega) q, fun c => q σ (fun u u0 u1 => ?_) Fr.rf⟩
  unfold upS
  by_cases e : u = t
  · rw [if_pos e, ← c, e]; exact m t t0 t1
  · rw [if_neg e]; exact m u u0 u1
/-- a note of the reference at place j -/
def MNj (σ : ZM) (j : Int) (e : Int × List Int) : Prop := zI σ 198 j = e.1 ∧ zI σ 197 j = (e.2.length : Int) ∧ e.2.length ≤ 400 ∧ ∀ i : Int, 0 ≤ i → i < (e.2.length : Int) → zI σ 196 (400 * j + i) = ga e.2 i
def MN (σ : ZM) (N : List (Int × List Int)) : Prop := zI σ 192 6 = (N.length : Int) ∧ N.length ≤ 60 ∧ ∀ (k : Nat) (e : Int × List Int), N[k]? = some e → MNj σ ((N.length : Int) - 1 - k) e
abbrev nof (a : Nat) (j : Int) : Prop := a = 196 ∨ a = 197 ∨ a = 198 ∨ (a = 192 ∧ j = 6)
theorem Fz.mnj {P : Nat → Int → Prop} {σ σ' : ZM} (h : Fz P σ σ') {j : Int} {e : Int × List Int} (h1 : ¬ P 198 j) (h2 : ¬ P 197 j) (h3 : ∀ i, 0 ≤ i → i < 400 → ¬ P 196 (400 * j + i)) (m : MNj σ j e) : MNj σ' j e := by
  obtain ⟨g1, g2, g3, g4⟩ := m
  exact ⟨by rw [h.i h1]; exact g1, by rw [h.i h2]; exact g2, g3, fun i i0 i1 => by rw [h.i (h3 i i0 (by omega))]; exact g4 i i0 i1⟩
theorem Fz.mn {P : Nat → Int → Prop} {σ σ' : ZM} (h : Fz P σ σ') {N : List (Int × List Int)} (h0 : ¬ P 192 6) (h1 : ∀ j, ¬ P 198 j) (h2 : ∀ j, ¬ P 197 j) (h3 : ∀ i, ¬ P 196 i) (m : MN σ N) : MN σ' N :=
  ⟨by rw [h.i h0]; exact m.1, m.2.1, fun k e he => h.mnj (h1 _) (h2 _) (fun i _ _ => h3 _) (m.2.2 k e he)⟩
theorem t_mNote_128 {Q : ZQ} {M : Int → List Int} {s n : Int} {E : Int → Int × List Int} (s0 : 0 ≤ s) (s1 : s ≤ 10) (n0 : 0 ≤ n) (n1 : n ≤ 59) : ∀ (k : Nat) (i : Int) (σ : ZM) (u : PV), 0 ≤ i → i + k = ((M s).length : Int) → Shp σ → MS σ M → zI σ 192 6 = n → zI σ 198 n = s → zI σ 197 n = ((M s).length : Int) → (∀ j, 0 ≤ j → j < i → zI σ 196 (400 * n + j) = ga (M s) j) → (∀ j, 0 ≤ j → j < n → MNj σ j (E j)) →
    (∀ σ', zI σ' 192 6 = n + 1 → (∀ j, 0 ≤ j → j < n → MNj σ' j (E j)) → MNj σ' n (s, M s) → Fz nof σ σ' → Q zu σ') → WP m_Mod_note 128 [zr 192, zi s, zi i, u] [] σ (0, 0) Q
  | 0, i, σ, u, i0, hk, hS, m, e6, e8, e7, hc, hb, q => by
    obtain ⟨g1, g2, g3⟩ := m s s0 s1
    refine r_Mod_note_128 ?_
    simp only [hS, g1, e6, zrI, zrL, zrR, Shp_wI, Shp_wJ, zR_wI, zR_wJ, zJ_wI, zI_wJ, zobj_wI, zobj_wJ, zarr_wI, zarr_wJ, zS_wI, zS_wJ, o_192, a_193, a_194, a_195, a_196, a_197, a_198, a_199, a_200, a_201, a_202, a_203, a_204, a_205, a_206, a_207, a_208, a_209, a_210, r_192_0, r_192_1, r_192_2, r_192_3, r_192_4, r_192_5, r_192_7, r_192_8, r_192_14, r_192_16, r_192_17, r_192_18, r_192_19, r_192_20, r_192_22, r_192_23, r_192_25, r_192_26, zrI, zrL, zrR, ne_eq, true_and, and_true, true_or, or_true, not_true_eq_false, not_false_eq_true, false_and, and_false, forall_const, true_implies, false_implies, implies_true, reduceCtorEq, Int.reduceEq, Int.reduceNe, Int.reduceLT, Int.reduceLE, Int.reduceNeg, Nat.reduceEqDiff, if_true, if_false, reduceIte, Int.reduceMul, Int.reduceAdd, Int.reduceSub]
    repeat' first | omega | exact Or.inl (by omega) | apply And.intro | refine fun (_ : _ ≤ _) => ?_ | refine fun (_ : _ < _) => ?_ | refine fun (_ : _ = _) => ?_ | refine fun (_ : ¬ (_ = _)) => ?_ | refine fun (_ : _ ∨ _) => ?_
    have f : Fz (fun a j => a = 192 ∧ j = 6) σ (wI σ 192 6 (n + 1)) := Fz.wI ⟨rfl, rfl⟩
    refine q _ (by rw [zI_wI, if_pos ⟨rfl, rfl⟩]) (fun j j0 j1 => f.mnj (by omega) (by omega) (fun _ _ _ => by omega) (hb j j0 j1)) (f.mnj (by omega) (by omega) (fun _ _ _ => by omega) ⟨e8, e7, g2, fun j j0 j1 => hc j j0 (by have : j < ((M s).length : Int) := j1; omega)⟩) (f.mono (fun a j w => by omega))
  | k + 1, i, σ, u, i0, hk, hS, m, e6, e8, e7, hc, hb, q => by
    obtain ⟨g1, g2, g3⟩ := m s s0 s1
    refine r_Mod_note_128 ?_
    simp only [hS, g1, e6, zrI, zrL, zrR, Shp_wI, Shp_wJ, zR_wI, zR_wJ, zJ_wI, zI_wJ, zobj_wI, zobj_wJ, zarr_wI, zarr_wJ, zS_wI, zS_wJ, o_192, a_193, a_194, a_195, a_196, a_197, a_198, a_199, a_200, a_201, a_202, a_203, a_204, a_205, a_206, a_207, a_208, a_209, a_210, r_192_0, r_192_1, r_192_2, r_192_3, r_192_4, r_192_5, r_192_7, r_192_8, r_192_14, r_192_16, r_192_17, r_192_18, r_192_19, r_192_20, r_192_22, r_192_23, r_192_25, r_192_26, zrI, zrL, zrR, ne_eq, true_and, and_true, true_or, or_true, not_true_eq_false, not_false_eq_true, false_and, and_false, forall_const, true_implies, false_implies, implies_true, reduceCtorEq, Int.reduceEq, Int.reduceNe, Int.reduceLT, Int.reduceLE, Int.reduceNeg, Nat.reduceEqDiff, if_true, if_false, reduceIte, Int.reduceMul, Int.reduceAdd, Int.reduceSub]
    repeat' first | omega | exact Or.inl (by omega) | apply And.intro | refine fun (_ : _ ≤ _) => ?_ | refine fun (_ : _ < _) => ?_ | refine fun (_ : _ = _) => ?_ | refine fun (_ : ¬ (_ = _)) => ?_ | refine fun (_ : _ ∨ _) => ?_
    refine t_mAt hS m s0 s1 i0 ?_
    show _ ∧ _
    simp only [hS, zrI, zrL, zrR, Shp_wI, Shp_wJ, zR_wI, zR_wJ, zJ_wI, zI_wJ, zobj_wI, zobj_wJ, zarr_wI, zarr_wJ, zS_wI, zS_wJ, o_192, a_193, a_194, a_195, a_196, a_197, a_198, a_199, a_200, a_201, a_202, a_203, a_204, a_205, a_206, a_207, a_208, a_209, a_210, r_192_0, r_192_1, r_192_2, r_192_3, r_192_4, r_192_5, r_192_7, r_192_8, r_192_14, r_192_16, r_192_17, r_192_18, r_192_19, r_192_20, r_192_22, r_192_23, r_192_25, r_192_26, zrI, zrL, zrR, ne_eq, true_and, and_true, true_or, or_true, not_true_eq_false, not_false_eq_true, false_and, and_false, forall_const, true_implies, false_implies, implies_true, reduceCtorEq, Int.reduceEq, Int.reduceNe, Int.reduceLT, Int.reduceLE, Int.reduceNeg, Nat.reduceEqDiff, if_true, if_false, reduceIte, Int.reduceMul, Int.reduceAdd, Int.reduceSub]
    repeat' first | omega | exact Or.inl (by omega) | apply And.intro | refine fun (_ : _ ≤ _) => ?_ | refine fun (_ : _ < _) => ?_ | refine fun (_ : _ = _) => ?_ | refine fun (_ : ¬ (_ = _)) => ?_ | refine fun (_ : _ ∨ _) => ?_
    have f : Fz (fun a j => a = 196 ∧ j = 400 * n + i) σ (wI σ 196 (400 * n + i) (ga (M s) i)) := Fz.wI ⟨rfl, rfl⟩
    refine t_mNote_128 s0 s1 n0 n1 k (i + 1) _ u (by omega) (by omega) hS (f.ms (fun j => by omega) (fun j => by omega) m) (by rw [f.i (by omega)]; exact e6) (by rw [f.i (by omega)]; exact e8) (by rw [f.i (by omega)]; exact e7) (fun j j0 j1 => ?_) (fun j j0 j1 => f.mnj (by omega) (by omega) (fun x x0 x1 => by omega) (hb j j0 j1)) (fun σ' k1 k2 k3 k4 => q σ' k1 k2 k3 ((f.mono (fun a j w => by omega)).tr k4))
    rw [zI_wI]
    by_cases e : j = i
    · rw [e, if_pos ⟨rfl, rfl⟩]
    · rw [if_neg (by omega)]; exact hc j j0 (by omega)
theorem t_mNote_47 {Q : ZQ} {s k : Int} {E : Int → Int × List Int} (k0 : 0 ≤ k) (k1 : k < 59) (hE : (E (k + 1)).2.length ≤ 400) : ∀ (m : Nat) (i : Int) (σ : ZM), 0 ≤ i → i + m = ((E (k + 1)).2.length : Int) → Shp σ → zI σ 198 k = (E (k + 1)).1 → zI σ 197 k = ((E (k + 1)).2.length : Int) → (∀ j, 0 ≤ j → j < i → zI σ 196 (400 * k + j) = ga (E (k + 1)).2 j) → (∀ j, 0 ≤ j → j < k → MNj σ j (E (j + 1))) → (∀ j, k < j → j ≤ 59 → MNj σ j (E j)) →
    (∀ σ' x, (∀ j, 0 ≤ j → j < k + 1 → MNj σ' j (E (j + 1))) → (∀ j, k + 1 ≤ j → j ≤ 59 → MNj σ' j (E j)) → Fz nof σ σ' → zI σ' 192 6 = zI σ 192 6 → WP m_Mod_note 11 [zr 192, zi s, zi (k + 1), zi x] [] σ' (0, 0) Q) → WP m_Mod_note 47 [zr 192, zi s, zi k, zi i] [] σ (0, 0) Q
  | 0, i, σ, i0, hk, hS, e8, e7, hc, hb, ha, q => by
    refine r_Mod_note_47 ?_
    simp only [hS, e7, zrI, zrL, zrR, Shp_wI, Shp_wJ, zR_wI, zR_wJ, zJ_wI, zI_wJ, zobj_wI, zobj_wJ, zarr_wI, zarr_wJ, zS_wI, zS_wJ, o_192, a_193, a_194, a_195, a_196, a_197, a_198, a_199, a_200, a_201, a_202, a_203, a_204, a_205, a_206, a_207, a_208, a_209, a_210, r_192_0, r_192_1, r_192_2, r_192_3, r_192_4, r_192_5, r_192_7, r_192_8, r_192_14, r_192_16, r_192_17, r_192_18, r_192_19, r_192_20, r_192_22, r_192_23, r_192_25, r_192_26, zrI, zrL, zrR, ne_eq, true_and, and_true, true_or, or_true, not_true_eq_false, not_false_eq_true, false_and, and_false, forall_const, true_implies, false_implies, implies_true, reduceCtorEq, Int.reduceEq, Int.reduceNe, Int.reduceLT, Int.reduceLE, Int.reduceNeg, Nat.reduceEqDiff, if_true, if_false, reduceIte, Int.reduceMul, Int.reduceAdd, Int.reduceSub]
    repeat' first | omega | exact Or.inl (by omega) | apply And.intro | refine fun (_ : _ ≤ _) => ?_ | refine fun (_ : _ < _) => ?_ | refine fun (_ : _ = _) => ?_ | refine fun (_ : ¬ (_ = _)) => ?_ | refine fun (_ : _ ∨ _) => ?_
    refine q σ i (fun j j0 j1 => ?_) (fun j j0 j1 => ha j (by omega) j1) Fz.rf rfl
    by_cases e : j = k
    · rw [e]; exact ⟨e8, e7, hE, fun x x0 x1 => hc x x0 (by omega)⟩
    · exact hb j j0 (by omega)
  | m + 1, i, σ, i0, hk, hS, e8, e7, hc, hb, ha, q => by
    refine r_Mod_note_47 ?_
    simp only [hS, e7, zrI, zrL, zrR, Shp_wI, Shp_wJ, zR_wI, zR_wJ, zJ_wI, zI_wJ, zobj_wI, zobj_wJ, zarr_wI, zarr_wJ, zS_wI, zS_wJ, o_192, a_193, a_194, a_195, a_196, a_197, a_198, a_199, a_200, a_201, a_202, a_203, a_204, a_205, a_206, a_207, a_208, a_209, a_210, r_192_0, r_192_1, r_192_2, r_192_3, r_192_4, r_192_5, r_192_7, r_192_8, r_192_14, r_192_16, r_192_17, r_192_18, r_192_19, r_192_20, r_192_22, r_192_23, r_192_25, r_192_26, zrI, zrL, zrR, ne_eq, true_and, and_true, true_or, or_true, not_true_eq_false, not_false_eq_true, false_and, and_false, forall_const, true_implies, false_implies, implies_true, reduceCtorEq, Int.reduceEq, Int.reduceNe, Int.reduceLT, Int.reduceLE, Int.reduceNeg, Nat.reduceEqDiff, if_true, if_false, reduceIte, Int.reduceMul, Int.reduceAdd, Int.reduceSub]
    repeat' first | omega | exact Or.inl (by omega) | apply And.intro | refine fun (_ : _ ≤ _) => ?_ | refine fun (_ : _ < _) => ?_ | refine fun (_ : _ = _) => ?_ | refine fun (_ : ¬ (_ = _)) => ?_ | refine fun (_ : _ ∨ _) => ?_
    have f : Fz (fun a j => a = 196 ∧ j = 400 * k + i) σ (wI σ 196 (400 * k + i) (zI σ 196 (400 * (k + 1) + i))) := Fz.wI ⟨rfl, rfl⟩
    refine t_mNote_47 k0 k1 hE m (i + 1) _ (by omega) (by omega) hS (by rw [f.i (by omega)]; exact e8) (by rw [f.i (by omega)]; exact e7) (fun j j0 j1 => ?_) (fun j j0 j1 => f.mnj (by omega) (by omega) (fun x x0 x1 => by omega) (hb j j0 j1)) (fun j j0 j1 => f.mnj (by omega) (by omega) (fun x x0 x1 => by omega) (ha j j0 j1)) (fun σ' x a1 a2 a3 a4 => q σ' x a1 a2 ((f.mono (fun a j w => by omega)).tr a3) (by rw [a4, f.i (by omega)]))
    rw [zI_wI]
    by_cases e : j = i
    · rw [e, if_pos ⟨rfl, rfl⟩]; exact (ha (k + 1) (by omega) (by omega)).2.2.2 i i0 (by omega)
    · rw [if_neg (by omega)]; exact hc j j0 (by omega)
theorem t_mNote_11 {Q : ZQ} {M : Int → List Int} {s : Int} {E : Int → Int × List Int} (s0 : 0 ≤ s) (s1 : s ≤ 10) : ∀ (m : Nat) (k : Int) (σ : ZM) (u : PV), 0 ≤ k → k + m = 59 → Shp σ → MS σ M → (∀ j, 0 ≤ j → j < k → MNj σ j (E (j + 1))) → (∀ j, k ≤ j → j ≤ 59 → MNj σ j (E j)) →
    (∀ σ', zI σ' 192 6 = 60 → (∀ j, 0 ≤ j → j < 59 → MNj σ' j (E (j + 1))) → MNj σ' 59 (s, M s) → Fz nof σ σ' → Q zu σ') → WP m_Mod_note 11 [zr 192, zi s, zi k, u] [] σ (0, 0) Q
  | 0, k, σ, u, k0, hk, hS, m, hb, ha, q => by
    obtain ⟨g1, g2, g3⟩ := m s s0 s1
    refine r_Mod_note_11 ?_
    simp only [hS, zI_wI, g1, zrI, zrL, zrR, Shp_wI, Shp_wJ, zR_wI, zR_wJ, zJ_wI, zI_wJ, zobj_wI, zobj_wJ, zarr_wI, zarr_wJ, zS_wI, zS_wJ, o_192, a_193, a_194, a_195, a_196, a_197, a_198, a_199, a_200, a_201, a_202, a_203, a_204, a_205, a_206, a_207, a_208, a_209, a_210, r_192_0, r_192_1, r_192_2, r_192_3, r_192_4, r_192_5, r_192_7, r_192_8, r_192_14, r_192_16, r_192_17, r_192_18, r_192_19, r_192_20, r_192_22, r_192_23, r_192_25, r_192_26, zrI, zrL, zrR, ne_eq, true_and, and_true, true_or, or_true, not_true_eq_false, not_false_eq_true, false_and, and_false, forall_const, true_implies, false_implies, implies_true, reduceCtorEq, Int.reduceEq, Int.reduceNe, Int.reduceLT, Int.reduceLE, Int.reduceNeg, Nat.reduceEqDiff, if_true, if_false, reduceIte, Int.reduceMul, Int.reduceAdd, Int.reduceSub]
    repeat' first | omega | exact Or.inl (by omega) | apply And.intro | refine fun (_ : _ ≤ _) => ?_ | refine fun (_ : _ < _) => ?_ | refine fun (_ : _ = _) => ?_ | refine fun (_ : ¬ (_ = _)) => ?_ | refine fun (_ : _ ∨ _) => ?_
    have f : Fz (fun a j => (a = 192 ∧ j = 6) ∨ (a = 198 ∧ j = 59) ∨ (a = 197 ∧ j = 59)) σ (wI (wI (wI σ 192 6 59) 198 59 s) 197 59 ((M s).length : Int)) := ((Fz.wI (Or.inl ⟨rfl, rfl⟩)).tr (Fz.wI (Or.inr (Or.inl ⟨rfl, rfl⟩)))).tr (Fz.wI (Or.inr (Or.inr ⟨rfl, rfl⟩)))
    refine t_mNote_128 (n := 59) (E := fun j => E (j + 1)) s0 s1 (by omega) (by omega) (M s).length 0 _ u (by omega) (by omega) hS (f.ms (fun j => by omega) (fun j => by omega) m) ?_ ?_ ?_ (fun j j0 j1 => by omega) (fun j j0 j1 => f.mnj (by omega) (by omega) (fun x x0 x1 => by omega) (hb j j0 (by omega))) (fun σ' k1 k2 k3 k4 => q σ' k1 k2 k3 ((f.mono (fun a j w => by omega)).tr k4))
    · simp only [zI_wI, zrI, zrL, zrR, ne_eq, true_and, and_true, true_or, or_true, not_true_eq_false, not_false_eq_true, false_and, and_false, forall_const, true_implies, false_implies, implies_true, reduceCtorEq, Int.reduceEq, Int.reduceNe, Int.reduceLT, Int.reduceLE, Int.reduceNeg, Nat.reduceEqDiff, if_true, if_false, reduceIte, Int.reduceMul, Int.reduceAdd, Int.reduceSub]
    · simp only [zI_wI, zrI, zrL, zrR, ne_eq, true_and, and_true, true_or, or_true, not_true_eq_false, not_false_eq_true, false_and, and_false, forall_const, true_implies, false_implies, implies_true, reduceCtorEq, Int.reduceEq, Int.reduceNe, Int.reduceLT, Int.reduceLE, Int.reduceNeg, Nat.reduceEqDiff, if_true, if_false, reduceIte, Int.reduceMul, Int.reduceAdd, Int.reduceSub]
    · simp only [zI_wI, zrI, zrL, zrR, ne_eq, true_and, and_true, true_or, or_true, not_true_eq_false, not_false_eq_true, false_and, and_false, forall_const, true_implies, false_implies, implies_true, reduceCtorEq, Int.reduceEq, Int.reduceNe, Int.reduceLT, Int.reduceLE, Int.reduceNeg, Nat.reduceEqDiff, if_true, if_false, reduceIte, Int.reduceMul, Int.reduceAdd, Int.reduceSub]
  | m' + 1, k, σ, u, k0, hk, hS, m, hb, ha, q => by
    obtain ⟨g1, g2, g3, g4⟩ := ha (k + 1) (by omega) (by omega)
    refine r_Mod_note_11 ?_
    simp only [hS, zI_wI, g1, g2, zrI, zrL, zrR, Shp_wI, Shp_wJ, zR_wI, zR_wJ, zJ_wI, zI_wJ, zobj_wI, zobj_wJ, zarr_wI, zarr_wJ, zS_wI, zS_wJ, o_192, a_193, a_194, a_195, a_196, a_197, a_198, a_199, a_200, a_201, a_202, a_203, a_204, a_205, a_206, a_207, a_208, a_209, a_210, r_192_0, r_192_1, r_192_2, r_192_3, r_192_4, r_192_5, r_192_7, r_192_8, r_192_14, r_192_16, r_192_17, r_192_18, r_192_19, r_192_20, r_192_22, r_192_23, r_192_25, r_192_26, zrI, zrL, zrR, ne_eq, true_and, and_true, true_or, or_true, not_true_eq_false, not_false_eq_true, false_and, and_false, forall_const, true_implies, false_implies, implies_true, reduceCtorEq, Int.reduceEq, Int.reduceNe, Int.reduceLT, Int.reduceLE, Int.reduceNeg, Nat.reduceEqDiff, if_true, if_false, reduceIte, Int.reduceMul, Int.reduceAdd, Int.reduceSub]
    repeat' first | omega | exact Or.inl (by omega) | apply And.intro | refine fun (_ : _ ≤ _) => ?_ | refine fun (_ : _ < _) => ?_ | refine fun (_ : _ = _) => ?_ | refine fun (_ : ¬ (_ = _)) => ?_ | refine fun (_ : _ ∨ _) => ?_
    have f : Fz (fun a j => (a = 198 ∧ j = k) ∨ (a = 197 ∧ j = k)) σ (wI (wI σ 197 k ((E (k + 1)).2.length : Int)) 198 k (E (k + 1)).1) := (Fz.wI (Or.inr ⟨rfl, rfl⟩)).tr (Fz.wI (Or.inl ⟨rfl, rfl⟩))
    refine t_mNote_47 (E := E) k0 (by omega) g3 (E (k + 1)).2.length 0 _ (by omega) (by omega) hS ?_ ?_ (fun j j0 j1 => by omega) (fun j j0 j1 => f.mnj (by omega) (by omega) (fun x x0 x1 => by omega) (hb j j0 (by omega))) (fun j j0 j1 => f.mnj (by omega) (by omega) (fun x x0 x1 => by omega) (ha j (by omega) j1)) (fun σ' x a1 a2 a3 a4 => t_mNote_11 s0 s1 m' (k + 1) σ' _ (by omega) (by omega) (a3.shp hS) (a3.ms (fun j => by omega) (fun j => by omega) (f.ms (fun j => by omega) (fun j => by omega) m)) a1 a2 (fun σ2 b1 b2 b3 b4 => q σ2 b1 b2 b3 (((f.mono (fun a j w => by omega)).tr a3).tr b4)))
    · simp only [zI_wI, zrI, zrL, zrR, ne_eq, true_and, and_true, true_or, or_true, not_true_eq_false, not_false_eq_true, false_and, and_false, forall_const, true_implies, false_implies, implies_true, reduceCtorEq, Int.reduceEq, Int.reduceNe, Int.reduceLT, Int.reduceLE, Int.reduceNeg, Nat.reduceEqDiff, if_true, if_false, reduceIte, Int.reduceMul, Int.reduceAdd, Int.reduceSub]
    · simp only [zI_wI, zrI, zrL, zrR, ne_eq, true_and, and_true, true_or, or_true, not_true_eq_false, not_false_eq_true, false_and, and_false, forall_const, true_implies, false_implies, implies_true, reduceCtorEq, Int.reduceEq, Int.reduceNe, Int.reduceLT, Int.reduceLE, Int.reduceNeg, Nat.reduceEqDiff, if_true, if_false, reduceIte, Int.reduceMul, Int.reduceAdd, Int.reduceSub]
set_option maxHeartbeats 1000000 in
theorem t_mNote {Q : ZQ} {σ : ZM} {M : Int → List Int} {N : List (Int × List Int)} {s : Int} (hS : Shp σ) (m : MS σ M) (hn : MN σ N) (s0 : 0 ≤ s) (s1 : s ≤ 10) (q : ∀ σ', MN σ' (((s, M s) :: N).take 60) → Fz nof σ σ' → Q zu σ') : WP m_Mod_note 0 [zr 192, zi s, zu, zu] [] σ (0, 0) Q := by
  obtain ⟨e6, hN, hE⟩ := hn
  obtain ⟨g1, g2, g3⟩ := m s s0 s1
  have E : ∀ j : Int, 0 ≤ j → j < (N.length : Int) → MNj σ j (N.getD (N.length - 1 - j.toNat) (0, [])) := fun j j0 j1 => by
    have := hE (N.length - 1 - j.toNat) (N.getD (N.length - 1 - j.toNat) (0, [])) (by rw [List.getD_eq_getElem?_getD, List.getElem?_eq_getElem (by omega)]; rfl)
    rw [show (N.length : Int) - 1 - ((N.length - 1 - j.toNat : Nat) : Int) = j by omega] at this
    exact this
  have hlen : (((s, M s) :: N).take 60).length = min 60 (N.length + 1) := by rw [List.length_take, List.length_cons]
  refine r_Mod_note_0 ?_
  simp only [hS, zI_wI, g1, e6, zrI, zrL, zrR, Shp_wI, Shp_wJ, zR_wI, zR_wJ, zJ_wI, zI_wJ, zobj_wI, zobj_wJ, zarr_wI, zarr_wJ, zS_wI, zS_wJ, o_192, a_193, a_194, a_195, a_196, a_197, a_198, a_199, a_200, a_201, a_202, a_203, a_204, a_205, a_206, a_207, a_208, a_209, a_210, r_192_0, r_192_1, r_192_2, r_192_3, r_192_4, r_192_5, r_192_7, r_192_8, r_192_14, r_192_16, r_192_17, r_192_18, r_192_19, r_192_20, r_192_22, r_192_23, r_192_25, r_192_26, zrI, zrL, zrR, ne_eq, true_and, and_true, true_or, or_true, not_true_eq_false, not_false_eq_true, false_and, and_false, forall_const, true_implies, false_implies, implies_true, reduceCtorEq, Int.reduceEq, Int.reduceNe, Int.reduceLT, Int.reduceLE, Int.reduceNeg, Nat.reduceEqDiff, if_true, if_false, reduceIte, Int.reduceMul, Int.reduceAdd, Int.reduceSub]
  repeat' first | omega | exact Or.inl (by omega) | apply And.intro | refine fun (_ : _ ≤ _) => ?_ | refine fun (_ : _ < _) => ?_ | refine fun (_ : _ = _) => ?_ | refine fun (_ : ¬ (_ = _)) => ?_ | refine fun (_ : _ ∨ _) => ?_
  · have f : Fz (fun a j => (a = 198 ∧ j = (N.length : Int)) ∨ (a = 197 ∧ j = (N.length : Int))) σ (wI (wI σ 198 (N.length : Int) s) 197 (N.length : Int) ((M s).length : Int)) := (Fz.wI (Or.inl ⟨rfl, rfl⟩)).tr (Fz.wI (Or.inr ⟨rfl, rfl⟩))
    refine t_mNote_128 (n := (N.length : Int)) (E := fun j => N.getD (N.length - 1 - j.toNat) (0, [])) s0 s1 (by omega) (by omega) (M s).length 0 _ _ (by omega) (by omega) hS (f.ms (fun j => by omega) (fun j => by omega) m) ?_ ?_ ?_ (fun j j0 j1 => by omega) (fun j j0 j1 => f.mnj (by omega) (by omega) (fun x x0 x1 => by omega) (E j j0 j1)) (fun σ' k1 k2 k3 k4 => q σ' ?_ ((f.mono (fun a j w => by omega)).tr k4))
    · rw [f.i (by omega)]; exact e6
    · simp only [zI_wI, zrI, zrL, zrR, ne_eq, true_and, and_true, true_or, or_true, not_true_eq_false, not_false_eq_true, false_and, and_false, forall_const, true_implies, false_implies, implies_true, reduceCtorEq, Int.reduceEq, Int.reduceNe, Int.reduceLT, Int.reduceLE, Int.reduceNeg, Nat.reduceEqDiff, if_true, if_false, reduceIte, Int.reduceMul, Int.reduceAdd, Int.reduceSub]
    · simp only [zI_wI, zrI, zrL, zrR, ne_eq, true_and, and_true, true_or, or_true, not_true_eq_false, not_false_eq_true, false_and, and_false, forall_const, true_implies, false_implies, implies_true, reduceCtorEq, Int.reduceEq, Int.reduceNe, Int.reduceLT, Int.reduceLE, Int.reduceNeg, Nat.reduceEqDiff, if_true, if_false, reduceIte, Int.reduceMul, Int.reduceAdd, Int.reduceSub]
    · refine ⟨by rw [k1, hlen]; omega, by rw [hlen]; omega, fun k e he => ?_⟩
      have hk := (List.getElem?_eq_some_iff.mp he).1
      rw [hlen] at hk
      rw [List.getElem?_take_of_lt (by omega)] at he
      rcases k with _ | k
      · cases he
        rw [hlen, show ((min 60 (N.length + 1) : Nat) : Int) - 1 - ((0 : Nat) : Int) = (N.length : Int) by omega]
        exact k3
      · have he : N[k]? = some e := he
        have := k2 ((N.length : Int) - 1 - k) (by omega) (by omega)
        rw [hlen, show ((min 60 (N.length + 1) : Nat) : Int) - 1 - ((k + 1 : Nat) : Int) = (N.length : Int) - 1 - k by omega]
        rw [show N.length - 1 - ((N.length : Int) - 1 - (k : Int)).toNat = k by omega, List.getD_eq_getElem?_getD, he] at this
        exact this
  · have h60 : N.length = 60 := by omega
    rw [h60] at E
    refine t_mNote_11 (E := fun j => N.getD (60 - 1 - j.toNat) (0, [])) s0 s1 59 0 σ _ (by omega) (by omega) hS m (fun j j0 j1 => by omega) (fun j j0 j1 => E j j0 (by omega)) (fun σ' k1 k2 k3 k4 => q σ' ?_ k4)
    refine ⟨by rw [k1, hlen]; omega, by rw [hlen]; omega, fun k e he => ?_⟩
    have hk := (List.getElem?_eq_some_iff.mp he).1
    rw [hlen] at hk
    rw [List.getElem?_take_of_lt (by omega)] at he
    rcases k with _ | k
    · cases he
      rw [hlen, show ((min 60 (N.length + 1) : Nat) : Int) - 1 - ((0 : Nat) : Int) = 59 by omega]
      exact k3
    · have he : N[k]? = some e := he
      have := k2 (58 - k) (by omega) (by omega)
      rw [hlen, show ((min 60 (N.length + 1) : Nat) : Int) - 1 - ((k + 1 : Nat) : Int) = 58 - k by omega]
      rw [show 60 - 1 - ((58 : Int) - (k : Int) + 1).toNat = k by omega, List.getD_eq_getElem?_getD, he] at this
      exact this
