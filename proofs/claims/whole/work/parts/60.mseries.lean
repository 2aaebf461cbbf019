/-! the calls on series, of the reference -/
def MR (σ : ZM) (x : Int) (s : SQ) : Prop := ∀ i : Nat, i ≤ 400 → zJ σ 209 (401 * x + (i : Int)) = s i
theorem MR.lk {σ : ZM} {x : Int} {s t : SQ} (h : MR σ x s) (l : Lk s t) : MR σ x t := fun i hi => (h i hi).trans (l i hi)
def MRowsI (σ : ZM) (R : Int → SQ) : Prop := ∀ x, 0 ≤ x → x ≤ 3 → MR σ x (R x)
abbrev rxf (x : Int) (a : Nat) (j : Int) : Prop := a = 209 ∧ 401 * x ≤ j ∧ j ≤ 401 * x + 400
abbrev mrf (a : Nat) (_ : Int) : Prop := a = 209 ∨ a = 210
theorem Fz.mrows {P : Nat → Int → Prop} {σ σ' : ZM} (h : Fz P σ σ') {R : Int → SQ} (hP : ∀ j, ¬ P 209 j) (r : MRowsI σ R) : MRowsI σ' R := fun x x0 x1 i hi => (h.j (hP _)).trans (r x x0 x1 i hi)
theorem MRowsI.up {σ σ' : ZM} {R : Int → SQ} {x : Int} {s : SQ} (r : MRowsI σ R) (f : Fz (fun a j => rxf x a j ∨ a = 210) σ σ') (h : MR σ' x s) : MRowsI σ' (upR R x s) := fun y y0 y1 => by
  unfold upR
  by_cases e : y = x
  · rw [if_pos e, e]; exact h
  · rw [if_neg e]
    exact fun i hi => (f.j (by omega)).trans (r y y0 y1 i hi)
theorem t_mSetRow {Q : ZQ} {σ : ZM} {x : Int} {s : SQ} (hS : Shp σ) (x0 : 0 ≤ x) (x1 : x ≤ 3) (hs : RV0 σ 210 s) (q : ∀ σ', MR σ' x s → Fz (rxf x) σ σ' → Q zu σ') : WP m_Mod_setRow 0 [zr 192, zi x, zu] [] σ (0, 0) Q := by
  have key : ∀ (m n : Nat) (τ : ZM), n + m = 401 → (∀ i : Nat, i < n → zJ τ 209 (401 * x + (i : Int)) = s i) → RV0 τ 210 s → Fz (rxf x) σ τ → WP m_Mod_setRow 2 [zr 192, zi x, zi (n : Int)] [] τ (0, 0) Q := by
    intro m
    induction m with
    | zero =>
      intro n τ hn hv hw f
      refine r_Mod_setRow_2 ⟨fun _ => q τ (fun i hi => hv i (by omega)) f, fun c => by omega⟩
    | succ m ih =>
      intro n τ hn hv hw f
      refine r_Mod_setRow_2 ?_
      simp only [f.shp hS, hw n (by omega), zrI, zrL, zrR, Shp_wI, Shp_wJ, zR_wI, zR_wJ, zJ_wI, zI_wJ, zobj_wI, zobj_wJ, zarr_wI, zarr_wJ, zS_wI, zS_wJ, o_192, a_193, a_194, a_195, a_196, a_197, a_198, a_199, a_200, a_201, a_202, a_203, a_204, a_205, a_206, a_207, a_208, a_209, a_210, r_192_0, r_192_1, r_192_2, r_192_3, r_192_4, r_192_5, r_192_7, r_192_8, r_192_14, r_192_16, r_192_17, r_192_18, r_192_19, r_192_20, r_192_22, r_192_23, r_192_25, r_192_26, zrI, zrL, zrR, ne_eq, true_and, and_true, true_or, or_true, not_true_eq_false, not_false_eq_true, false_and, and_false, forall_const, true_implies, false_implies, implies_true, reduceCtorEq, Int.reduceEq, Int.reduceNe, Int.reduceLT, Int.reduceLE, Int.reduceNeg, Nat.reduceEqDiff, if_true, if_false, reduceIte, Int.reduceMul, Int.reduceAdd, Int.reduceSub]
      repeat' first | omega | exact Or.inl (by omega) | apply And.intro | refine fun (_ : _ ≤ _) => ?_ | refine fun (_ : _ < _) => ?_ | refine fun (_ : _ = _) => ?_ | refine fun (_ : ¬ (_ = _)) => ?_ | refine fun (_ : _ ∨ _) => ?_
      have := ih (n + 1) (wJ τ 209 (401 * x + (n : Int)) (s n)) (by omega) (fun i hi => ?_) (fun i hi => ?_) (f.tr (Fz.wJ (by omega)))
      · rw [Int.natCast_succ] at this
        exact this
      · rw [zJ_wJ]
        by_cases e : i = n
        · rw [if_pos ⟨rfl, by omega⟩, e]
        · rw [if_neg (by omega)]
          exact hv i (by omega)
      · rw [zJ_wJ, if_neg (by omega)]
        exact hw i hi
  exact r_Mod_setRow_0 (key 401 0 σ (by omega) (fun i hi => by omega) hs Fz.rf)
theorem m_one {Q : ZQ} {σ : ZM} {R : Int → SQ} {x : Int} (hS : Shp σ) (r : MRowsI σ R) (hx : -2147483648 ≤ x ∧ x ≤ 2147483647) (q0 : (x < 0 ∨ 3 < x) → Q (zi (-2)) σ) (q1 : 0 ≤ x → x ≤ 3 → ∀ σ', MRowsI σ' (upR R x oneS) → Fz mrf σ σ' → Q (zi 1) σ') : WP m_Mod_one 0 [zr 192, zi x, zu] [] σ (0, 0) Q := by
  refine r_Mod_one_0 ?_
  simp only [hS, zrI, zrL, zrR, Shp_wI, Shp_wJ, zR_wI, zR_wJ, zJ_wI, zI_wJ, zobj_wI, zobj_wJ, zarr_wI, zarr_wJ, zS_wI, zS_wJ, o_192, a_193, a_194, a_195, a_196, a_197, a_198, a_199, a_200, a_201, a_202, a_203, a_204, a_205, a_206, a_207, a_208, a_209, a_210, r_192_0, r_192_1, r_192_2, r_192_3, r_192_4, r_192_5, r_192_7, r_192_8, r_192_14, r_192_16, r_192_17, r_192_18, r_192_19, r_192_20, r_192_22, r_192_23, r_192_25, r_192_26, zrI, zrL, zrR, ne_eq, true_and, and_true, true_or, or_true, not_true_eq_false, not_false_eq_true, false_and, and_false, forall_const, true_implies, false_implies, implies_true, reduceCtorEq, Int.reduceEq, Int.reduceNe, Int.reduceLT, Int.reduceLE, Int.reduceNeg, Nat.reduceEqDiff, if_true, if_false, reduceIte, Int.reduceMul, Int.reduceAdd, Int.reduceSub]
  refine t_mRow hx (fun x0 x1 => ?_) (fun c => ?_)
  · simp only [zrI, zrL, zrR, ne_eq, true_and, and_true, true_or, or_true, not_true_eq_false, not_false_eq_true, false_and, and_false, forall_const, true_implies, false_implies, implies_true, reduceCtorEq, Int.reduceEq, Int.reduceNe, Int.reduceLT, Int.reduceLE, Int.reduceNeg, Nat.reduceEqDiff, if_true, if_false, reduceIte, Int.reduceMul, Int.reduceAdd, Int.reduceSub]
    have key : ∀ (m n : Nat) (τ : ZM), n + m = 401 → (∀ i : Nat, i < n → zJ τ 209 (401 * x + (i : Int)) = oneS i) → Fz (rxf x) σ τ → WP m_Mod_one 13 [zr 192, zi x, zi (n : Int)] [] τ (0, 0) Q := by
      intro m
      induction m with
      | zero =>
        intro n τ hn hv f
        refine r_Mod_one_13 ⟨fun _ => q1 x0 x1 τ (r.up (f.mono (fun a j w => Or.inl w)) (fun i hi => hv i (by omega))) (f.mono (fun a j w => by omega)), fun c => by omega⟩
      | succ m ih =>
        intro n τ hn hv f
        have go : ∀ v : Int64, v = oneS n → WP m_Mod_one 13 [zr 192, zi x, zi ((n : Int) + 1)] [] (wJ τ 209 (401 * x + (n : Int)) v) (0, 0) Q := fun v hvv => by
          have := ih (n + 1) (wJ τ 209 (401 * x + (n : Int)) v) (by omega) (fun i hi => ?_) (f.tr (Fz.wJ (by omega)))
          · rw [Int.natCast_succ] at this
            exact this
          · rw [zJ_wJ]
            by_cases e : i = n
            · rw [if_pos ⟨rfl, by omega⟩, e, hvv]
            · rw [if_neg (by omega)]
              exact hv i (by omega)
        refine r_Mod_one_13 ?_
        simp only [f.shp hS, zrI, zrL, zrR, Shp_wI, Shp_wJ, zR_wI, zR_wJ, zJ_wI, zI_wJ, zobj_wI, zobj_wJ, zarr_wI, zarr_wJ, zS_wI, zS_wJ, o_192, a_193, a_194, a_195, a_196, a_197, a_198, a_199, a_200, a_201, a_202, a_203, a_204, a_205, a_206, a_207, a_208, a_209, a_210, r_192_0, r_192_1, r_192_2, r_192_3, r_192_4, r_192_5, r_192_7, r_192_8, r_192_14, r_192_16, r_192_17, r_192_18, r_192_19, r_192_20, r_192_22, r_192_23, r_192_25, r_192_26, zrI, zrL, zrR, ne_eq, true_and, and_true, true_or, or_true, not_true_eq_false, not_false_eq_true, false_and, and_false, forall_const, true_implies, false_implies, implies_true, reduceCtorEq, Int.reduceEq, Int.reduceNe, Int.reduceLT, Int.reduceLE, Int.reduceNeg, Nat.reduceEqDiff, if_true, if_false, reduceIte, Int.reduceMul, Int.reduceAdd, Int.reduceSub]
        refine ⟨fun c => by omega, fun _ => ⟨by omega, by omega, fun c => ⟨by omega, by omega, go 0 ?_⟩, fun c => ⟨by omega, by omega, go 1 ?_⟩⟩⟩
        · unfold oneS
          rw [if_neg (by omega)]
        · unfold oneS
          rw [if_pos (by omega)]
    exact key 401 0 σ (by omega) (fun i hi => by omega) Fz.rf
  · simp only [zrI, zrL, zrR, ne_eq, true_and, and_true, true_or, or_true, not_true_eq_false, not_false_eq_true, false_and, and_false, forall_const, true_implies, false_implies, implies_true, reduceCtorEq, Int.reduceEq, Int.reduceNe, Int.reduceLT, Int.reduceLE, Int.reduceNeg, Nat.reduceEqDiff, if_true, if_false, reduceIte, Int.reduceMul, Int.reduceAdd, Int.reduceSub]
    exact q0 c
theorem t_mf92 {Q : ZQ} {σ0 : ZM} {x k i m e : Int} {kn : Nat} {s : SQ} (x0 : 0 ≤ x) (x1 : x ≤ 3) (hk : k = kn) (k1 : 1 ≤ k) (k4 : k ≤ 400) (i0 : 0 ≤ i) (i1 : i ≤ 100) (u1 u3 : PV) (q : ∀ σ' u, MR σ' x (mulX kn s) → Fz (rxf x) σ0 σ' → WP m_Mod_factors 80 [zr 192, u1, zi m, u3, zi e, zi (401 * x), zi k, zi (i + 1), u] [] σ' (0, 0) Q) :
    ∀ (g : Nat) (p : Int) (τ : ZM), p + 1 = k + g → p ≤ 400 → Shp τ → (∀ n : Nat, n ≤ 400 → zJ τ 209 (401 * x + (n : Int)) = if (n : Int) ≤ p then s n else mulX kn s n) → Fz (rxf x) σ0 τ → WP m_Mod_factors 92 [zr 192, u1, zi m, u3, zi e, zi (401 * x), zi k, zi i, zi p] [] τ (0, 0) Q := by
  intro g
  induction g with
  | zero =>
    intro p τ hp p4 hS hv f
    refine r_Mod_factors_92 ⟨fun _ => ⟨by omega, q τ _ (fun n hn => ?_) f⟩, fun c => by omega⟩
    rw [hv n hn]
    split
    · unfold mulX shS
      rw [if_neg (by omega), Int64.sub_zero]
    · rfl
  | succ g ih =>
    intro p τ hp p4 hS hv f
    obtain ⟨n, rfl⟩ := Int.eq_ofNat_of_zero_le (show 0 ≤ p by omega)
    refine r_Mod_factors_92 ?_
    simp only [hS, zrI, zrL, zrR, Shp_wI, Shp_wJ, zR_wI, zR_wJ, zJ_wI, zI_wJ, zobj_wI, zobj_wJ, zarr_wI, zarr_wJ, zS_wI, zS_wJ, o_192, a_193, a_194, a_195, a_196, a_197, a_198, a_199, a_200, a_201, a_202, a_203, a_204, a_205, a_206, a_207, a_208, a_209, a_210, r_192_0, r_192_1, r_192_2, r_192_3, r_192_4, r_192_5, r_192_7, r_192_8, r_192_14, r_192_16, r_192_17, r_192_18, r_192_19, r_192_20, r_192_22, r_192_23, r_192_25, r_192_26, zrI, zrL, zrR, ne_eq, true_and, and_true, true_or, or_true, not_true_eq_false, not_false_eq_true, false_and, and_false, forall_const, true_implies, false_implies, implies_true, reduceCtorEq, Int.reduceEq, Int.reduceNe, Int.reduceLT, Int.reduceLE, Int.reduceNeg, Nat.reduceEqDiff, if_true, if_false, reduceIte, Int.reduceMul, Int.reduceAdd, Int.reduceSub]
    refine ⟨fun c => by omega, fun _ => ⟨by omega, by omega, by omega, by omega, by omega, by omega, by omega, ?_⟩⟩
    refine ih ((n : Int) + -1) _ (by omega) (by omega) hS (fun j hj => ?_) (f.tr (Fz.wJ (by omega)))
    rw [zJ_wJ]
    by_cases c : j = n
    · have e1 := hv n (by omega)
      rw [if_pos (by omega)] at e1
      have e2 := hv (n - kn) (by omega)
      rw [if_pos (by omega), show 401 * x + ((n - kn : Nat) : Int) = 401 * x + (n : Int) - k by omega] at e2
      rw [if_pos ⟨rfl, by omega⟩, if_neg (by omega), e1, e2, c]
      unfold mulX shS
      rw [if_pos (by omega)]
    · rw [if_neg (by omega), hv j hj]
      by_cases c2 : (j : Int) ≤ (n : Int)
      · rw [if_pos c2, if_pos (by omega)]
      · rw [if_neg c2, if_neg (by omega)]
theorem t_mf152 {Q : ZQ} {σ0 : ZM} {x k i m e : Int} {kn : Nat} {s : SQ} (x0 : 0 ≤ x) (x1 : x ≤ 3) (hk : k = kn) (k1 : 1 ≤ k) (k4 : k ≤ 400) (i0 : 0 ≤ i) (i1 : i ≤ 100) (u1 u3 : PV) (q : ∀ σ' u, MR σ' x (divX kn s) → Fz (rxf x) σ0 σ' → WP m_Mod_factors 140 [zr 192, u1, zi m, u3, zi e, zi (401 * x), zi k, zi (i + 1), u] [] σ' (0, 0) Q) :
    ∀ (g p : Nat) (τ : ZM), p + g = 401 → kn ≤ p → Shp τ → (∀ n : Nat, n ≤ 400 → zJ τ 209 (401 * x + (n : Int)) = if n < p then divX kn s n else s n) → Fz (rxf x) σ0 τ → WP m_Mod_factors 152 [zr 192, u1, zi m, u3, zi e, zi (401 * x), zi k, zi i, zi (p : Int)] [] τ (0, 0) Q := by
  intro g
  induction g with
  | zero =>
    intro p τ hp p4 hS hv f
    refine r_Mod_factors_152 ⟨fun _ => ⟨by omega, q τ _ (fun n hn => ?_) f⟩, fun c => by omega⟩
    rw [hv n hn, if_pos (by omega)]
  | succ g ih =>
    intro p τ hp p4 hS hv f
    refine r_Mod_factors_152 ?_
    simp only [hS, zrI, zrL, zrR, Shp_wI, Shp_wJ, zR_wI, zR_wJ, zJ_wI, zI_wJ, zobj_wI, zobj_wJ, zarr_wI, zarr_wJ, zS_wI, zS_wJ, o_192, a_193, a_194, a_195, a_196, a_197, a_198, a_199, a_200, a_201, a_202, a_203, a_204, a_205, a_206, a_207, a_208, a_209, a_210, r_192_0, r_192_1, r_192_2, r_192_3, r_192_4, r_192_5, r_192_7, r_192_8, r_192_14, r_192_16, r_192_17, r_192_18, r_192_19, r_192_20, r_192_22, r_192_23, r_192_25, r_192_26, zrI, zrL, zrR, ne_eq, true_and, and_true, true_or, or_true, not_true_eq_false, not_false_eq_true, false_and, and_false, forall_const, true_implies, false_implies, implies_true, reduceCtorEq, Int.reduceEq, Int.reduceNe, Int.reduceLT, Int.reduceLE, Int.reduceNeg, Nat.reduceEqDiff, if_true, if_false, reduceIte, Int.reduceMul, Int.reduceAdd, Int.reduceSub]
    refine ⟨fun c => by omega, fun _ => ⟨by omega, by omega, by omega, by omega, by omega, by omega, by omega, ?_⟩⟩
    have e1 := hv p (by omega)
    rw [if_neg (by omega)] at e1
    have e2 := hv (p - kn) (by omega)
    rw [if_pos (by omega), show 401 * x + ((p - kn : Nat) : Int) = 401 * x + (p : Int) - k by omega] at e2
    rw [e1, e2]
    have := ih (p + 1) (wJ τ 209 (401 * x + (p : Int)) (s p + divX kn s (p - kn))) (by omega) (by omega) hS (fun j hj => ?_) (f.tr (Fz.wJ (by omega)))
    · rw [Int.natCast_succ] at this
      exact this
    · rw [zJ_wJ]
      by_cases c : j = p
      · rw [if_pos ⟨rfl, by omega⟩, if_pos (by omega), c, divX_eq (by omega) s p]
        unfold shS
        rw [if_pos (by omega)]
      · rw [if_neg (by omega), hv j hj]
        by_cases c2 : j < p
        · rw [if_pos c2, if_pos (by omega)]
        · rw [if_neg c2, if_neg (by omega)]
theorem divX_low {k : Nat} {s : SQ} {n : Nat} (hk : 1 ≤ k) (h : n < k) : divX k s n = s n := by
  rw [divX_eq hk]
  unfold shS
  rw [if_neg (by omega), Int64.add_zero]
theorem t_mf80 {Q : ZQ} {σ0 : ZM} {x k m e : Int} {kn : Nat} {s : SQ} (hS0 : Shp σ0) (x0 : 0 ≤ x) (x1 : x ≤ 3) (hk : k = kn) (k1 : 1 ≤ k) (k4 : k ≤ 400) (m0 : 0 ≤ m) (m4 : m ≤ 400) (e0 : -20 ≤ e) (e1 : e ≤ 20) (u1 u3 : PV) (hs : MR σ0 x s)
    (q : ∀ σ' u u', MR σ' x (pwX kn e s) → Fz (rxf x) σ0 σ' → WP m_Mod_factors 69 [zr 192, u1, zi m, u3, zi e, zi (401 * x), zi (k + m), u, u'] [] σ' (0, 0) Q) (u8 : PV) : WP m_Mod_factors 80 [zr 192, u1, zi m, u3, zi e, zi (401 * x), zi k, zi 0, u8] [] σ0 (0, 0) Q := by
  have k140 : ∀ (g i : Nat) (τ : ZM) (u : PV), (i : Int) + g = max 0 (-e) → (e < 0 → MR τ x (itr (divX kn) i s)) → Fz (rxf x) σ0 τ → (0 ≤ e → MR τ x (pwX kn e s)) → WP m_Mod_factors 140 [zr 192, u1, zi m, u3, zi e, zi (401 * x), zi k, zi (i : Int), u] [] τ (0, 0) Q := by
    intro g
    induction g with
    | zero =>
      intro i τ u hi hv f hp
      refine r_Mod_factors_140 ⟨by omega, fun _ => ⟨by omega, q τ _ _ ?_ f⟩, fun c => by omega⟩
      by_cases c : 0 ≤ e
      · exact hp c
      · unfold pwX
        rw [if_neg c, show (-e).toNat = i by omega]
        exact hv (by omega)
    | succ g ih =>
      intro i τ u hi hv f hp
      refine r_Mod_factors_140 ⟨by omega, fun c => by omega, fun _ => ?_⟩
      rw [show k = (kn : Int) from hk]
      refine t_mf152 (σ0 := σ0) (s := itr (divX kn) i s) x0 x1 rfl (by omega) (by omega) (by omega) (by omega) u1 u3 (fun σ' u w1 w2 => ?_) (401 - kn) kn τ (by omega) (Nat.le_refl _) (f.shp hS0) (fun n hn => ?_) f
      · have := ih (i + 1) σ' u (by omega) (fun _ => w1) w2 (fun c => by omega)
        rw [Int.natCast_succ, show k = (kn : Int) from hk] at this
        exact this
      · rw [hv (by omega) n hn]
        split
        · rw [divX_low (by omega) (by assumption)]
        · rfl
  have k80 : ∀ (g i : Nat) (τ : ZM) (u : PV), (i : Int) + g = max 0 e → MR τ x (itr (mulX kn) i s) → Fz (rxf x) σ0 τ → WP m_Mod_factors 80 [zr 192, u1, zi m, u3, zi e, zi (401 * x), zi k, zi (i : Int), u] [] τ (0, 0) Q := by
    intro g
    induction g with
    | zero =>
      intro i τ u hi hv f
      refine r_Mod_factors_80 ⟨fun _ => ?_, fun c => by omega⟩
      by_cases c : 0 ≤ e
      · refine k140 0 0 τ u (by omega) (fun c2 => by omega) f (fun _ => ?_)
        unfold pwX
        rw [if_pos c, show e.toNat = i by omega]
        exact hv
      · refine k140 (-e).toNat 0 τ u (by omega) ?_ f (fun c2 => absurd c2 c)
        intro _
        rw [show i = 0 by omega] at hv
        exact hv
    | succ g ih =>
      intro i τ u hi hv f
      refine r_Mod_factors_80 ⟨fun c => by omega, fun _ => ?_⟩
      refine t_mf92 (σ0 := σ0) (s := itr (mulX kn) i s) (kn := kn) x0 x1 hk k1 k4 (by omega) (by omega) u1 u3 (fun σ' u w1 w2 => ?_) (401 - kn) 400 τ (by omega) (by omega) (f.shp hS0) (fun n hn => ?_) f
      · have := ih (i + 1) σ' u (by omega) w1 w2
        rw [Int.natCast_succ] at this
        exact this
      · rw [if_pos (by omega)]
        exact hv n hn
  exact k80 (max 0 e).toNat 0 σ0 u8 (by omega) hs Fz.rf
theorem m_factors {Q : ZQ} {σ : ZM} {R : Int → SQ} {x m r e : Int} (hS : Shp σ) (hR : MRowsI σ R) (hx : -2147483648 ≤ x ∧ x ≤ 2147483647) (hm : -2147483648 ≤ m ∧ m ≤ 2147483647) (hr : -2147483648 ≤ r ∧ r ≤ 2147483647) (he : -2147483648 ≤ e ∧ e ≤ 2147483647) (q0 : (x < 0 ∨ 3 < x ∨ m < 1 ∨ 400 < m ∨ r < 0 ∨ m - 1 < r ∨ e < -20 ∨ 20 < e) → Q (zi (-2)) σ) (q1 : 0 ≤ x → x ≤ 3 → 1 ≤ m → m ≤ 400 → 0 ≤ r → r ≤ m - 1 → -20 ≤ e → e ≤ 20 → ∀ σ', MRowsI σ' (upR R x (facX m.toNat r.toNat e (R x))) → Fz mrf σ σ' → Q (zi 1) σ') : WP m_Mod_factors 0 [zr 192, zi x, zi m, zi r, zi e, zu, zu, zu, zu] [] σ (0, 0) Q := by
  refine r_Mod_factors_0 ?_
  simp only [hS, zrI, zrL, zrR, Shp_wI, Shp_wJ, zR_wI, zR_wJ, zJ_wI, zI_wJ, zobj_wI, zobj_wJ, zarr_wI, zarr_wJ, zS_wI, zS_wJ, o_192, a_193, a_194, a_195, a_196, a_197, a_198, a_199, a_200, a_201, a_202, a_203, a_204, a_205, a_206, a_207, a_208, a_209, a_210, r_192_0, r_192_1, r_192_2, r_192_3, r_192_4, r_192_5, r_192_7, r_192_8, r_192_14, r_192_16, r_192_17, r_192_18, r_192_19, r_192_20, r_192_22, r_192_23, r_192_25, r_192_26, zrI, zrL, zrR, ne_eq, true_and, and_true, true_or, or_true, not_true_eq_false, not_false_eq_true, false_and, and_false, forall_const, true_implies, false_implies, implies_true, reduceCtorEq, Int.reduceEq, Int.reduceNe, Int.reduceLT, Int.reduceLE, Int.reduceNeg, Nat.reduceEqDiff, if_true, if_false, reduceIte, Int.reduceMul, Int.reduceAdd, Int.reduceSub]
  refine t_mRow hx (fun x0 x1 => ?_) (fun c => ?_)
  · simp only [zrI, zrL, zrR, ne_eq, true_and, and_true, true_or, or_true, not_true_eq_false, not_false_eq_true, false_and, and_false, forall_const, true_implies, false_implies, implies_true, reduceCtorEq, Int.reduceEq, Int.reduceNe, Int.reduceLT, Int.reduceLE, Int.reduceNeg, Nat.reduceEqDiff, if_true, if_false, reduceIte, Int.reduceMul, Int.reduceAdd, Int.reduceSub]
    refine t_inN (n := 1) (m := 400) hm (by decide) (by decide) (fun m0 m1 => ?_) (fun c => ?_)
    · simp only [zrI, zrL, zrR, ne_eq, true_and, and_true, true_or, or_true, not_true_eq_false, not_false_eq_true, false_and, and_false, forall_const, true_implies, false_implies, implies_true, reduceCtorEq, Int.reduceEq, Int.reduceNe, Int.reduceLT, Int.reduceLE, Int.reduceNeg, Nat.reduceEqDiff, if_true, if_false, reduceIte, Int.reduceMul, Int.reduceAdd, Int.reduceSub]
      refine ⟨by omega, t_inI hr (fun r0 r1 => ?_) (fun c => ?_)⟩
      · have r0 : 0 ≤ r := r0
        rw [l64 (by omega)] at r1
        simp only [zrI, zrL, zrR, ne_eq, true_and, and_true, true_or, or_true, not_true_eq_false, not_false_eq_true, false_and, and_false, forall_const, true_implies, false_implies, implies_true, reduceCtorEq, Int.reduceEq, Int.reduceNe, Int.reduceLT, Int.reduceLE, Int.reduceNeg, Nat.reduceEqDiff, if_true, if_false, reduceIte, Int.reduceMul, Int.reduceAdd, Int.reduceSub]
        refine t_inI he (fun e0 e1 => ?_) (fun c => ?_)
        · have e0 : -20 ≤ e := e0
          have e1 : e ≤ 20 := e1
          simp only [zrI, zrL, zrR, ne_eq, true_and, and_true, true_or, or_true, not_true_eq_false, not_false_eq_true, false_and, and_false, forall_const, true_implies, false_implies, implies_true, reduceCtorEq, Int.reduceEq, Int.reduceNe, Int.reduceLT, Int.reduceLE, Int.reduceNeg, Nat.reduceEqDiff, if_true, if_false, reduceIte, Int.reduceMul, Int.reduceAdd, Int.reduceSub]
          have key : ∀ (g k : Nat) (τ : ZM) (u u' : PV) (t : SQ), 1 ≤ k → k ≤ 800 → 401 ≤ k + g → MR τ x t → Fz (rxf x) σ τ → (∀ σ', MR σ' x (facs m.toNat e g k t) → Fz (rxf x) σ σ' → Q (zi 1) σ') → WP m_Mod_factors 69 [zr 192, zi x, zi m, zi r, zi e, zi (401 * x), zi (k : Int), u, u'] [] τ (0, 0) Q := by
            intro g
            induction g with
            | zero =>
              intro k τ u u' t k1 k8 hg ht f q
              refine r_Mod_factors_69 ⟨fun _ => q τ ht f, fun c => by omega⟩
            | succ g ih =>
              intro k τ u u' t k1 k8 hg ht f q
              refine r_Mod_factors_69 ⟨fun c => ?_, fun c => ?_⟩
              · rw [facs_far (by omega)] at q
                exact q τ ht f
              · refine t_mf80 (kn := k) (f.shp hS) x0 x1 rfl (by omega) (by omega) (by omega) (by omega) e0 e1 _ _ ht (fun σ' v v' w1 w2 => ?_) _
                have := ih (k + m.toNat) σ' v v' (pwX k e t) (by omega) (by omega) (by omega) w1 (f.tr w2) (fun σ2 z1 z2 => q σ2 (by
                  show MR σ2 x (if k ≤ 400 then facs m.toNat e g (k + m.toNat) (pwX k e t) else t)
                  rw [if_pos (by omega)]
                  exact z1) z2)
                rw [show ((k + m.toNat : Nat) : Int) = (k : Int) + m by omega] at this
                exact this
          refine ⟨by omega, fun c => ?_, fun c => ?_⟩
          · have := key 401 r.toNat σ zu zu (R x) (by omega) (by omega) (by omega) (hR x x0 x1) Fz.rf (fun σ' w1 w2 => q1 x0 x1 m0 m1 r0 r1 e0 e1 σ' (hR.up (w2.mono (fun a j w => Or.inl w)) (by
              unfold facX
              rw [if_neg (by omega)]
              exact w1)) (w2.mono (fun a j w => by omega)))
            rw [show (r.toNat : Int) = r by omega] at this
            exact this
          · have := key 401 m.toNat σ zu zu (R x) (by omega) (by omega) (by omega) (hR x x0 x1) Fz.rf (fun σ' w1 w2 => q1 x0 x1 m0 m1 r0 r1 e0 e1 σ' (hR.up (w2.mono (fun a j w => Or.inl w)) (by
              unfold facX
              rw [if_pos (by omega)]
              exact w1)) (w2.mono (fun a j w => by omega)))
            rw [show (m.toNat : Int) = m by omega] at this
            exact this
        · have c : e < -20 ∨ 20 < e := c
          simp only [zrI, zrL, zrR, ne_eq, true_and, and_true, true_or, or_true, not_true_eq_false, not_false_eq_true, false_and, and_false, forall_const, true_implies, false_implies, implies_true, reduceCtorEq, Int.reduceEq, Int.reduceNe, Int.reduceLT, Int.reduceLE, Int.reduceNeg, Nat.reduceEqDiff, if_true, if_false, reduceIte, Int.reduceMul, Int.reduceAdd, Int.reduceSub]
          exact q0 (by omega)
      · rw [l64 (by omega)] at c
        have c : r < 0 ∨ m - 1 < r := c
        simp only [zrI, zrL, zrR, ne_eq, true_and, and_true, true_or, or_true, not_true_eq_false, not_false_eq_true, false_and, and_false, forall_const, true_implies, false_implies, implies_true, reduceCtorEq, Int.reduceEq, Int.reduceNe, Int.reduceLT, Int.reduceLE, Int.reduceNeg, Nat.reduceEqDiff, if_true, if_false, reduceIte, Int.reduceMul, Int.reduceAdd, Int.reduceSub]
        exact q0 (by omega)
    · simp only [zrI, zrL, zrR, ne_eq, true_and, and_true, true_or, or_true, not_true_eq_false, not_false_eq_true, false_and, and_false, forall_const, true_implies, false_implies, implies_true, reduceCtorEq, Int.reduceEq, Int.reduceNe, Int.reduceLT, Int.reduceLE, Int.reduceNeg, Nat.reduceEqDiff, if_true, if_false, reduceIte, Int.reduceMul, Int.reduceAdd, Int.reduceSub]
      exact q0 (by omega)
  · simp only [zrI, zrL, zrR, ne_eq, true_and, and_true, true_or, or_true, not_true_eq_false, not_false_eq_true, false_and, and_false, forall_const, true_implies, false_implies, implies_true, reduceCtorEq, Int.reduceEq, Int.reduceNe, Int.reduceLT, Int.reduceLE, Int.reduceNeg, Nat.reduceEqDiff, if_true, if_false, reduceIte, Int.reduceMul, Int.reduceAdd, Int.reduceSub]
    exact q0 (by omega)
