/-! fillings, reference: split, fillingsOf -/
def Op (σ : ZM) (g : Int → Int) : Prop := ∀ u : Int, 0 ≤ u → u ≤ 30 → zI σ 207 u = g u
def stF (g : Int → Int) (b : Int) (m : Nat) (q j : Nat) : Int → Int := fun u => g u + b * (if u < (q : Int) then (vqN u.toNat m : Int) else if u = (q : Int) then (j : Int) else 0)
theorem t_split {Q : ZQ} {σ : ZM} {g : Int → Int} {b : Int} {m : Nat} (hS : Shp σ) (ho : Op σ g) (m1 : 1 ≤ m) (m30 : m ≤ 30) (hb : b = 1 ∨ b = -1) (hg : ∀ u, 0 ≤ u → u ≤ 30 → -2000000 ≤ g u ∧ g u ≤ 2000000) (q : ∀ σ', Op σ' (fun u => g u + b * (vqN u.toNat m : Int)) → Fr (fun a => a = 207) σ σ' → Q zu σ') : WP m_Mod_split 0 [zr 192, zi (m : Int), zi b, zu, zu] [] σ (0, 0) Q := by
  have k5 : ∀ (e r : Nat) (u1 : PV) (τ : ZM), r + e = 31 → 2 ≤ r → Op τ (stF g b m r 0) → Fr (fun a => a = 207) σ τ → WP m_Mod_split 5 [zr 192, u1, zi b, zi (rsN r m : Int), zi (r : Int)] [] τ (0, 0) Q := by
    intro e
    induction e with
    | zero =>
      intro r u1 τ hr r2 hoT f1
      refine r_Mod_split_5 ⟨fun _ => q τ (fun u u0 u1 => ?_) f1, fun w => by omega⟩
      rw [hoT u u0 u1]
      unfold stF
      rw [if_pos (by omega)]
    | succ e ih =>
      intro r u1 τ hr r2 hoT f1
      have k17 : ∀ (c j : Nat) (υ : ZM), j + c = vqN r m → Op υ (stF g b m r j) → Fr (fun a => a = 207) σ υ → WP m_Mod_split 17 [zr 192, u1, zi b, zi ((rsN r m / r ^ j : Nat) : Int), zi (r : Int)] [] υ (0, 0) Q := by
        intro c
        have vo := vq_out (m := m) (q := r) (by omega) (by omega) r2 m1
        induction c with
        | zero =>
          intro j υ hj hoU f1
          have hU := f1.shp hS
          have ej : j = vqN r m := by omega
          subst ej
          have e0 : rsN r m / r ^ vqN r m ≤ rsN r m := Nat.div_le_self _ _
          have e1 : Int.tmod ((rsN r m / r ^ vqN r m : Nat) : Int) (r : Int) = ((rsN r m / r ^ vqN r m % r : Nat) : Int) := by rw [Int.tmod_eq_emod_of_nonneg (Int.natCast_nonneg _)]; exact (Int.natCast_emod _ _).symm
          have e2 : Int.tdiv ((rsN r m / r ^ vqN r m : Nat) : Int) (r : Int) = ((rsN r m / r ^ vqN r m / r : Nat) : Int) := by rw [Int.tdiv_eq_ediv_of_nonneg (Int.natCast_nonneg _)]; exact (Int.natCast_ediv _ _).symm
          have e3 : rsN r m / r ^ vqN r m / r ≤ rsN r m / r ^ vqN r m := Nat.div_le_self _ _
          have := ih (r + 1) u1 υ (by omega) (by omega) (fun u u0 u1 => by
            rw [hoU u u0 u1]
            unfold stF
            by_cases c1 : u < (r : Int)
            · rw [if_pos c1, if_pos (by omega)]
            · rw [if_neg c1]
              by_cases c2 : u = (r : Int)
              · rw [if_pos c2, if_pos (by omega), c2, Int.toNat_natCast]
              · rw [if_neg c2, if_neg (by omega)]
                split
                · rfl
                · rfl) f1
          rw [Int.natCast_succ, show rsN (r + 1) m = rsN r m / r ^ vqN r m from rfl] at this
          refine r_Mod_split_17 ?_
          simp only [hU, zrI, zrL, zrR, Shp_wI, Shp_wJ, zR_wI, zR_wJ, zJ_wI, zI_wJ, zobj_wI, zobj_wJ, zarr_wI, zarr_wJ, zS_wI, zS_wJ, o_192, a_193, a_194, a_195, a_196, a_197, a_198, a_199, a_200, a_201, a_202, a_203, a_204, a_205, a_206, a_207, a_208, a_209, a_210, r_192_0, r_192_1, r_192_2, r_192_3, r_192_4, r_192_5, r_192_7, r_192_8, r_192_14, r_192_16, r_192_17, r_192_18, r_192_19, r_192_20, r_192_22, r_192_23, r_192_25, r_192_26, zrI, zrL, zrR, ne_eq, true_and, and_true, true_or, or_true, not_true_eq_false, not_false_eq_true, false_and, and_false, forall_const, true_implies, false_implies, implies_true, reduceCtorEq, Int.reduceEq, Int.reduceNe, Int.reduceLT, Int.reduceLE, Int.reduceNeg, Nat.reduceEqDiff, if_true, if_false, reduceIte, Int.reduceMul, Int.reduceAdd, Int.reduceSub]
          rw [e1, e2]
          generalize rsN r m / r ^ vqN r m / r = y at *
          generalize rsN r m / r ^ vqN r m % r = z at *
          generalize rsN r m / r ^ vqN r m = x at *
          exact ⟨by omega, by omega, fun _ => ⟨by omega, this⟩, fun w => absurd w (by omega)⟩
        | succ c ihc =>
          intro j υ hj hoU f1
          have hU := f1.shp hS
          have vi := vq_in (m := m) (q := r) (j := j) (by omega) (by omega) r2 m1 (by omega)
          have e0 : rsN r m / r ^ j ≤ rsN r m := Nat.div_le_self _ _
          have e1 : Int.tmod ((rsN r m / r ^ j : Nat) : Int) (r : Int) = ((rsN r m / r ^ j % r : Nat) : Int) := by rw [Int.tmod_eq_emod_of_nonneg (Int.natCast_nonneg _)]; exact (Int.natCast_emod _ _).symm
          have e2 : Int.tdiv ((rsN r m / r ^ j : Nat) : Int) (r : Int) = ((rsN r m / r ^ j / r : Nat) : Int) := by rw [Int.tdiv_eq_ediv_of_nonneg (Int.natCast_nonneg _)]; exact (Int.natCast_ediv _ _).symm
          have e3 : rsN r m / r ^ j / r ≤ rsN r m / r ^ j := Nat.div_le_self _ _
          have e4 : rsN r m / r ^ j / r = rsN r m / r ^ (j + 1) := by rw [Nat.div_div_eq_div_mul, Nat.pow_succ]
          have v1 := hoU (r : Int) (by omega) (by omega)
          have ev : stF g b m r j (r : Int) = g (r : Int) + b * (j : Int) := by
            unfold stF
            rw [if_neg (by omega), if_pos rfl]
          rw [ev] at v1
          have gb := hg (r : Int) (by omega) (by omega)
          have jb : (j : Int) ≤ 5 := by omega
          have bb : -5 ≤ b * (j : Int) ∧ b * (j : Int) ≤ 5 := by
            rcases hb with w | w
            · rw [w]; omega
            · rw [w]; omega
          have := ihc (j + 1) (wI υ 207 (r : Int) (g (r : Int) + b * (j : Int) + b)) (by omega) (fun u u0 u1 => by
            rw [zI_wI]
            unfold stF
            by_cases c2 : u = (r : Int)
            · rw [if_pos ⟨rfl, c2⟩, c2, if_neg (by omega), if_pos rfl, Int.natCast_succ, Int.mul_add, Int.mul_one]
              omega
            · rw [if_neg (fun w => c2 w.2), hoU u u0 u1]
              unfold stF
              by_cases c1 : u < (r : Int)
              · rw [if_pos c1, if_pos c1]
              · rw [if_neg c1, if_neg c1, if_neg c2, if_neg c2]) (f1.tr (Fr.wI rfl))
          rw [← e4] at this
          refine r_Mod_split_17 ?_
          simp only [hU, v1, zrI, zrL, zrR, Shp_wI, Shp_wJ, zR_wI, zR_wJ, zJ_wI, zI_wJ, zobj_wI, zobj_wJ, zarr_wI, zarr_wJ, zS_wI, zS_wJ, o_192, a_193, a_194, a_195, a_196, a_197, a_198, a_199, a_200, a_201, a_202, a_203, a_204, a_205, a_206, a_207, a_208, a_209, a_210, r_192_0, r_192_1, r_192_2, r_192_3, r_192_4, r_192_5, r_192_7, r_192_8, r_192_14, r_192_16, r_192_17, r_192_18, r_192_19, r_192_20, r_192_22, r_192_23, r_192_25, r_192_26, zrI, zrL, zrR, ne_eq, true_and, and_true, true_or, or_true, not_true_eq_false, not_false_eq_true, false_and, and_false, forall_const, true_implies, false_implies, implies_true, reduceCtorEq, Int.reduceEq, Int.reduceNe, Int.reduceLT, Int.reduceLE, Int.reduceNeg, Nat.reduceEqDiff, if_true, if_false, reduceIte, Int.reduceMul, Int.reduceAdd, Int.reduceSub]
          rw [e1, e2]
          clear ih ihc e1 e2 e4
          generalize rsN r m / r ^ j / r = y at *
          generalize rsN r m / r ^ j % r = z at *
          generalize rsN r m / r ^ j = x at *
          generalize b * (j : Int) = bj at *
          exact ⟨by omega, by omega, fun w => absurd vi (by omega), fun _ => ⟨by omega, by omega, by omega, by omega, by omega, this⟩⟩
      have vo := vq_out (m := m) (q := r) (by omega) (by omega) r2 m1
      refine r_Mod_split_5 ⟨fun w => by omega, fun _ => ⟨fun w => q τ (fun u u0 u1 => ?_) f1, fun w => ?_⟩⟩
      · rw [hoT u u0 u1]
        unfold stF
        by_cases c1 : u < (r : Int)
        · rw [if_pos c1]
        · rw [if_neg c1]
          show _ = g u + b * (vqN u.toNat m : Int)
          rw [vq_end (m := m) (q := r) (p := u.toNat) (by omega) (by omega) r2 m1 (by omega) (by omega) (by omega)]
          split
          · rfl
          · rfl
      · have := k17 (vqN r m) 0 τ (by omega) hoT f1
        rw [Nat.pow_zero, Nat.div_one] at this
        exact this
  refine r_Mod_split_0 ?_
  have := k5 29 2 (zi (m : Int)) σ (by omega) (by omega) (fun u u0 u1 => by
    rw [ho u u0 u1]
    unfold stF
    have : (if u < ((2 : Nat) : Int) then (vqN u.toNat m : Int) else if u = ((2 : Nat) : Int) then ((0 : Nat) : Int) else 0) = 0 := by
      by_cases c1 : u < ((2 : Nat) : Int)
      · rw [if_pos c1]
        have : u.toNat = 0 ∨ u.toNat = 1 := by omega
        rcases this with w | w
        · rw [w, pr_no (by decide)]
          rfl
        · rw [w, pr_no (by decide)]
          rfl
      · rw [if_neg c1]
        split <;> rfl
    rw [this, Int.mul_zero]
    omega) Fr.rf
  rw [vq_rs m (by omega)] at this
  exact this
theorem vqI_bd {q : Nat} (hq : q < 31) {v : Int} (v0 : 0 ≤ v) (v1 : v ≤ 30) : 0 ≤ vqI q v ∧ vqI q v ≤ 5 := by
  unfold vqI
  by_cases c : v.toNat = 0
  · rw [c, (vq_small q hq).1]
    omega
  · by_cases c2 : 2 ≤ q
    · have := (vq_out (m := v.toNat) (q := q) (by omega) hq c2 (by omega)).2.1
      omega
    · have : q = 0 ∨ q = 1 := by omega
      rcases this with w | w
      · rw [w, pr_no (by decide)]
        omega
      · rw [w, pr_no (by decide)]
        omega
theorem hkS_vb {l : List Int} (hp : Pt l) (hn : l.sum ≤ 30) {q : Nat} (hq : q < 31) (i : Nat) (j : Nat) (hj : (j : Int) ≤ ga l (i : Int)) : 0 ≤ hkS (vqI q) l i + sm (fun j => vqI q (hkN l (i : Int) j)) j ∧ hkS (vqI q) l i + sm (fun j => vqI q (hkN l (i : Int) j)) j ≤ (i : Int) * 2000 + 2000 := by
  have row : ∀ (r : Nat) (j : Nat), (j : Int) ≤ ga l (r : Int) → 0 ≤ sm (fun j => vqI q (hkN l (r : Int) j)) j ∧ sm (fun j => vqI q (hkN l (r : Int) j)) j ≤ 2000 := fun r j hj => by
    have h2 := hp.rng (r : Int)
    have h1 := sm_bd (f := fun j => vqI q (hkN l (r : Int) j)) (B := 5) j (fun j' j0 j1 => by
      have := hk_bd hp r j' j0 (by omega)
      exact vqI_bd hq (by omega) (by omega))
    omega
  have h1 := row i j hj
  have h2 := sm_bd (f := fun r => sm (fun j => vqI q (hkN l r j)) (ga l r).toNat) (B := 2000) i (fun r r0 r1 => by
    have := row r.toNat (ga l r).toNat (by rw [show ((r.toNat : Nat) : Int) = r by omega]; have := hp.rng r; omega)
    rw [show ((r.toNat : Nat) : Int) = r by omega] at this
    exact this)
  unfold hkS
  omega
theorem t_mFillingsOf {Q : ZQ} {σ : ZM} {M : Int → List Int} {s : Int} (hS : Shp σ) (m : MS σ M) (s0 : 0 ≤ s) (s1 : s ≤ 10) (hp : Pt (M s)) (hn : (M s).sum ≤ 30) (q : ∀ σ', Fr (fun a => a = 207) σ σ' → Q (zl (fjP (exL (M s)) 29)) σ') : WP m_Mod_fillingsOf 0 [zr 192, zi s, zu, zu, zu, zu, zu] [] σ (0, 0) Q := by
  have hlen := hp.len
  obtain ⟨n, en⟩ : ∃ n : Nat, (M s).sum = (n : Int) := ⟨(M s).sum.toNat, by omega⟩
  have en' : (M s).sum.toNat = n := by omega
  have k102 : ∀ (e v : Nat) (u1 u2 u6 : PV) (τ : ZM), v + e = 29 → (∀ r : Nat, 2 ≤ r → r ≤ 30 → zI τ 207 (r : Int) = exL (M s) r) → Fr (fun a => a = 207) σ τ → WP m_Mod_fillingsOf 102 [zr 192, u1, u2, zl (fjP (exL (M s)) v), zu, zi ((v : Int) + 2), u6] [] τ (0, 0) Q := by
    intro e
    induction e with
    | zero =>
      intro v u1 u2 u6 τ hv hx f1
      refine r_Mod_fillingsOf_102 ⟨fun _ => ?_, fun w => by omega⟩
      rw [show v = 29 by omega]
      exact q τ f1
    | succ e ih =>
      intro v u1 u2 u6 τ hv hx f1
      have hT := f1.shp hS
      refine r_Mod_fillingsOf_102 ⟨fun w => by omega, fun _ => ?_⟩
      have vx := hx (v + 2) (by omega) (by omega)
      rw [show ((v + 2 : Nat) : Int) = (v : Int) + 2 by omega] at vx
      have hz : exL (M s) (v + 2) ≤ 2147483647 := by
        have h1 : 0 ≤ hSm (vqI (v + 2)) (M s) := by
          rw [← hkS_eq]
          exact sm_ge0 _ (fun r _ _ => sm_ge0 _ (fun j _ _ => by show 0 ≤ vqI (v + 2) (hkN (M s) r j); unfold vqI; omega))
        have h2 := sm_bd (f := vqI (v + 2)) (B := 5) ((M s).sum.toNat + 1) (fun u u0 u1 => vqI_bd (by omega) u0 (by omega))
        unfold exL
        omega
      have k112 : ∀ (c i : Nat) (u2 : PV), i + c = (exL (M s) (v + 2)).toNat → WP m_Mod_fillingsOf 112 [zr 192, u1, u2, zl (pw64 (fjP (exL (M s)) v) (Int64.ofInt ((v : Int) + 2)) i), zu, zi ((v : Int) + 2), zi (i : Int)] [] τ (0, 0) Q := by
        intro c
        induction c with
        | zero =>
          intro i u2 hi
          refine r_Mod_fillingsOf_112 ?_
          simp only [hT, vx, zrI, zrL, zrR, Shp_wI, Shp_wJ, zR_wI, zR_wJ, zJ_wI, zI_wJ, zobj_wI, zobj_wJ, zarr_wI, zarr_wJ, zS_wI, zS_wJ, o_192, a_193, a_194, a_195, a_196, a_197, a_198, a_199, a_200, a_201, a_202, a_203, a_204, a_205, a_206, a_207, a_208, a_209, a_210, r_192_0, r_192_1, r_192_2, r_192_3, r_192_4, r_192_5, r_192_7, r_192_8, r_192_14, r_192_16, r_192_17, r_192_18, r_192_19, r_192_20, r_192_22, r_192_23, r_192_25, r_192_26, zrI, zrL, zrR, ne_eq, true_and, and_true, true_or, or_true, not_true_eq_false, not_false_eq_true, false_and, and_false, forall_const, true_implies, false_implies, implies_true, reduceCtorEq, Int.reduceEq, Int.reduceNe, Int.reduceLT, Int.reduceLE, Int.reduceNeg, Nat.reduceEqDiff, if_true, if_false, reduceIte, Int.reduceMul, Int.reduceAdd, Int.reduceSub]
          have := ih (v + 1) u1 u2 (zi (i : Int)) τ (by omega) hx f1
          rw [show ((v + 1 : Nat) : Int) + 2 = (v : Int) + 2 + 1 by omega] at this
          have e2 : fjP (exL (M s)) (v + 1) = pw64 (fjP (exL (M s)) v) (Int64.ofInt ((v : Int) + 2)) (exL (M s) (v + 2)).toNat := rfl
          rw [e2, show (exL (M s) (v + 2)).toNat = i by omega] at this
          exact ⟨by omega, fun _ => ⟨by omega, this⟩, fun w => by omega⟩
        | succ c ihm =>
          intro i u2 hi
          refine r_Mod_fillingsOf_112 ?_
          simp only [hT, vx, zrI, zrL, zrR, Shp_wI, Shp_wJ, zR_wI, zR_wJ, zJ_wI, zI_wJ, zobj_wI, zobj_wJ, zarr_wI, zarr_wJ, zS_wI, zS_wJ, o_192, a_193, a_194, a_195, a_196, a_197, a_198, a_199, a_200, a_201, a_202, a_203, a_204, a_205, a_206, a_207, a_208, a_209, a_210, r_192_0, r_192_1, r_192_2, r_192_3, r_192_4, r_192_5, r_192_7, r_192_8, r_192_14, r_192_16, r_192_17, r_192_18, r_192_19, r_192_20, r_192_22, r_192_23, r_192_25, r_192_26, zrI, zrL, zrR, ne_eq, true_and, and_true, true_or, or_true, not_true_eq_false, not_false_eq_true, false_and, and_false, forall_const, true_implies, false_implies, implies_true, reduceCtorEq, Int.reduceEq, Int.reduceNe, Int.reduceLT, Int.reduceLE, Int.reduceNeg, Nat.reduceEqDiff, if_true, if_false, reduceIte, Int.reduceMul, Int.reduceAdd, Int.reduceSub]
          have := ihm (i + 1) (zkill u2) (by omega)
          rw [Int.natCast_succ] at this
          exact ⟨by omega, fun w => by omega, fun _ => ⟨by omega, this⟩⟩
      exact k112 (exL (M s) (v + 2)).toNat 0 u2 (by omega)
  have k48 : ∀ (e i : Nat) (u2 u4 u5 u6 : PV) (τ : ZM), i + e = (M s).length → Op τ (fun u => sm (vqI u.toNat) (n + 1) - hkS (vqI u.toNat) (M s) i) → Fr (fun a => a = 207) σ τ → WP m_Mod_fillingsOf 48 [zr 192, zi s, u2, zi (i : Int), u4, u5, u6] [] τ (0, 0) Q := by
    intro e
    induction e with
    | zero =>
      intro i u2 u4 u5 u6 τ hi ho f1
      have hT := f1.shp hS
      have mT := f1.ms (by omega) (by omega) m
      have g1 := (mT s s0 s1).1
      refine r_Mod_fillingsOf_48 ?_
      simp only [hT, g1, zrI, zrL, zrR, Shp_wI, Shp_wJ, zR_wI, zR_wJ, zJ_wI, zI_wJ, zobj_wI, zobj_wJ, zarr_wI, zarr_wJ, zS_wI, zS_wJ, o_192, a_193, a_194, a_195, a_196, a_197, a_198, a_199, a_200, a_201, a_202, a_203, a_204, a_205, a_206, a_207, a_208, a_209, a_210, r_192_0, r_192_1, r_192_2, r_192_3, r_192_4, r_192_5, r_192_7, r_192_8, r_192_14, r_192_16, r_192_17, r_192_18, r_192_19, r_192_20, r_192_22, r_192_23, r_192_25, r_192_26, zrI, zrL, zrR, ne_eq, true_and, and_true, true_or, or_true, not_true_eq_false, not_false_eq_true, false_and, and_false, forall_const, true_implies, false_implies, implies_true, reduceCtorEq, Int.reduceEq, Int.reduceNe, Int.reduceLT, Int.reduceLE, Int.reduceNeg, Nat.reduceEqDiff, if_true, if_false, reduceIte, Int.reduceMul, Int.reduceAdd, Int.reduceSub]
      refine ⟨by omega, fun _ => k102 29 0 _ _ _ τ (by omega) (fun r r2 rn => ?_) f1, fun w => by omega⟩
      have hv := ho (r : Int) (by omega) (by omega)
      rw [hv]
      show sm (vqI ((r : Int)).toNat) (n + 1) - hkS (vqI ((r : Int)).toNat) (M s) i = exL (M s) r
      rw [Int.toNat_natCast, show i = (M s).length by omega, hkS_eq]
      unfold exL
      rw [en']
    | succ e ih =>
      intro i u2 u4 u5 u6 τ hi ho f1
      have hT := f1.shp hS
      have mT := f1.ms (by omega) (by omega) m
      have g1 := (mT s s0 s1).1
      have hr := hp.rng (i : Int)
      have k61 : ∀ (c j : Nat) (u2 : PV) (υ : ZM), (j : Int) + c = ga (M s) (i : Int) → Op υ (fun u => sm (vqI u.toNat) (n + 1) - (hkS (vqI u.toNat) (M s) i + sm (fun j => vqI u.toNat (hkN (M s) (i : Int) j)) j)) → Fr (fun a => a = 207) σ υ → WP m_Mod_fillingsOf 61 [zr 192, zi s, u2, zi (i : Int), zi (j : Int), u5, u6] [] υ (0, 0) Q := by
        intro c
        induction c with
        | zero =>
          intro j u2 υ hj ho f1
          have hT := f1.shp hS
          have mT := f1.ms (by omega) (by omega) m
          refine r_Mod_fillingsOf_61 ?_
          simp only [hT, zrI, zrL, zrR, Shp_wI, Shp_wJ, zR_wI, zR_wJ, zJ_wI, zI_wJ, zobj_wI, zobj_wJ, zarr_wI, zarr_wJ, zS_wI, zS_wJ, o_192, a_193, a_194, a_195, a_196, a_197, a_198, a_199, a_200, a_201, a_202, a_203, a_204, a_205, a_206, a_207, a_208, a_209, a_210, r_192_0, r_192_1, r_192_2, r_192_3, r_192_4, r_192_5, r_192_7, r_192_8, r_192_14, r_192_16, r_192_17, r_192_18, r_192_19, r_192_20, r_192_22, r_192_23, r_192_25, r_192_26, zrI, zrL, zrR, ne_eq, true_and, and_true, true_or, or_true, not_true_eq_false, not_false_eq_true, false_and, and_false, forall_const, true_implies, false_implies, implies_true, reduceCtorEq, Int.reduceEq, Int.reduceNe, Int.reduceLT, Int.reduceLE, Int.reduceNeg, Nat.reduceEqDiff, if_true, if_false, reduceIte, Int.reduceMul, Int.reduceAdd, Int.reduceSub]
          refine t_mAt hT mT s0 s1 (by omega) ?_
          simp only [hT, zrI, zrL, zrR, Shp_wI, Shp_wJ, zR_wI, zR_wJ, zJ_wI, zI_wJ, zobj_wI, zobj_wJ, zarr_wI, zarr_wJ, zS_wI, zS_wJ, o_192, a_193, a_194, a_195, a_196, a_197, a_198, a_199, a_200, a_201, a_202, a_203, a_204, a_205, a_206, a_207, a_208, a_209, a_210, r_192_0, r_192_1, r_192_2, r_192_3, r_192_4, r_192_5, r_192_7, r_192_8, r_192_14, r_192_16, r_192_17, r_192_18, r_192_19, r_192_20, r_192_22, r_192_23, r_192_25, r_192_26, zrI, zrL, zrR, ne_eq, true_and, and_true, true_or, or_true, not_true_eq_false, not_false_eq_true, false_and, and_false, forall_const, true_implies, false_implies, implies_true, reduceCtorEq, Int.reduceEq, Int.reduceNe, Int.reduceLT, Int.reduceLE, Int.reduceNeg, Nat.reduceEqDiff, if_true, if_false, reduceIte, Int.reduceMul, Int.reduceAdd, Int.reduceSub]
          have := ih (i + 1) (zkill u2) (zi (j : Int)) u5 u6 υ (by omega) (fun v v0 v1 => by
            have hv := ho v v0 v1
            rw [hv]
            show sm (vqI v.toNat) (n + 1) - (hkS (vqI v.toNat) (M s) i + sm (fun j => vqI v.toNat (hkN (M s) (i : Int) j)) j) = sm (vqI v.toNat) (n + 1) - (hkS (vqI v.toNat) (M s) i + sm (fun j => vqI v.toNat (hkN (M s) (i : Int) j)) (ga (M s) (i : Int)).toNat)
            rw [show (ga (M s) (i : Int)).toNat = j by omega]) f1
          rw [Int.natCast_succ] at this
          exact ⟨fun _ => ⟨by omega, this⟩, fun w => by omega⟩
        | succ c ihm =>
          intro j u2 υ hj ho f1
          have hT := f1.shp hS
          have mT := f1.ms (by omega) (by omega) m
          have hk := hk_bd hp i (j : Int) (by omega) (by omega)
          refine r_Mod_fillingsOf_61 ?_
          simp only [hT, zrI, zrL, zrR, Shp_wI, Shp_wJ, zR_wI, zR_wJ, zJ_wI, zI_wJ, zobj_wI, zobj_wJ, zarr_wI, zarr_wJ, zS_wI, zS_wJ, o_192, a_193, a_194, a_195, a_196, a_197, a_198, a_199, a_200, a_201, a_202, a_203, a_204, a_205, a_206, a_207, a_208, a_209, a_210, r_192_0, r_192_1, r_192_2, r_192_3, r_192_4, r_192_5, r_192_7, r_192_8, r_192_14, r_192_16, r_192_17, r_192_18, r_192_19, r_192_20, r_192_22, r_192_23, r_192_25, r_192_26, zrI, zrL, zrR, ne_eq, true_and, and_true, true_or, or_true, not_true_eq_false, not_false_eq_true, false_and, and_false, forall_const, true_implies, false_implies, implies_true, reduceCtorEq, Int.reduceEq, Int.reduceNe, Int.reduceLT, Int.reduceLE, Int.reduceNeg, Nat.reduceEqDiff, if_true, if_false, reduceIte, Int.reduceMul, Int.reduceAdd, Int.reduceSub]
          refine t_mAt hT mT s0 s1 (by omega) ?_
          simp only [hT, zrI, zrL, zrR, Shp_wI, Shp_wJ, zR_wI, zR_wJ, zJ_wI, zI_wJ, zobj_wI, zobj_wJ, zarr_wI, zarr_wJ, zS_wI, zS_wJ, o_192, a_193, a_194, a_195, a_196, a_197, a_198, a_199, a_200, a_201, a_202, a_203, a_204, a_205, a_206, a_207, a_208, a_209, a_210, r_192_0, r_192_1, r_192_2, r_192_3, r_192_4, r_192_5, r_192_7, r_192_8, r_192_14, r_192_16, r_192_17, r_192_18, r_192_19, r_192_20, r_192_22, r_192_23, r_192_25, r_192_26, zrI, zrL, zrR, ne_eq, true_and, and_true, true_or, or_true, not_true_eq_false, not_false_eq_true, false_and, and_false, forall_const, true_implies, false_implies, implies_true, reduceCtorEq, Int.reduceEq, Int.reduceNe, Int.reduceLT, Int.reduceLE, Int.reduceNeg, Nat.reduceEqDiff, if_true, if_false, reduceIte, Int.reduceMul, Int.reduceAdd, Int.reduceSub]
          refine ⟨fun w => by omega, fun _ => t_mHookOf hT mT s0 s1 hp (by omega) (by omega) (by omega) ?_⟩
          simp only [hT, zrI, zrL, zrR, Shp_wI, Shp_wJ, zR_wI, zR_wJ, zJ_wI, zI_wJ, zobj_wI, zobj_wJ, zarr_wI, zarr_wJ, zS_wI, zS_wJ, o_192, a_193, a_194, a_195, a_196, a_197, a_198, a_199, a_200, a_201, a_202, a_203, a_204, a_205, a_206, a_207, a_208, a_209, a_210, r_192_0, r_192_1, r_192_2, r_192_3, r_192_4, r_192_5, r_192_7, r_192_8, r_192_14, r_192_16, r_192_17, r_192_18, r_192_19, r_192_20, r_192_22, r_192_23, r_192_25, r_192_26, zrI, zrL, zrR, ne_eq, true_and, and_true, true_or, or_true, not_true_eq_false, not_false_eq_true, false_and, and_false, forall_const, true_implies, false_implies, implies_true, reduceCtorEq, Int.reduceEq, Int.reduceNe, Int.reduceLT, Int.reduceLE, Int.reduceNeg, Nat.reduceEqDiff, if_true, if_false, reduceIte, Int.reduceMul, Int.reduceAdd, Int.reduceSub]
          obtain ⟨h, eh⟩ : ∃ h : Nat, hkN (M s) (i : Int) (j : Int) = (h : Int) := ⟨(hkN (M s) (i : Int) (j : Int)).toNat, by omega⟩
          rw [eh]
          refine t_split hT ho (by omega) (by omega) (Or.inr rfl) (fun u u0 u1 => ?_) (fun ξ w1 w2 => ⟨by omega, ?_⟩)
          · have b1 := hkS_vb hp hn (q := u.toNat) (by omega) i j (by omega)
            have b2 := sm_bd (f := vqI u.toNat) (B := 5) (n + 1) (fun v v0 v1 => vqI_bd (by omega) v0 (by omega))
            show -2000000 ≤ sm (vqI u.toNat) (n + 1) - (hkS (vqI u.toNat) (M s) i + sm (fun j => vqI u.toNat (hkN (M s) (i : Int) j)) j) ∧ sm (vqI u.toNat) (n + 1) - (hkS (vqI u.toNat) (M s) i + sm (fun j => vqI u.toNat (hkN (M s) (i : Int) j)) j) ≤ 2000000
            omega
          · have := ihm (j + 1) u2 ξ (by omega) (fun u u0 u1 => by
              have hv := w1 u u0 u1
              rw [hv]
              show sm (vqI u.toNat) (n + 1) - (hkS (vqI u.toNat) (M s) i + sm (fun j => vqI u.toNat (hkN (M s) (i : Int) j)) j) + -1 * (vqN u.toNat h : Int) = sm (vqI u.toNat) (n + 1) - (hkS (vqI u.toNat) (M s) i + (sm (fun j => vqI u.toNat (hkN (M s) (i : Int) j)) j + vqI u.toNat (hkN (M s) (i : Int) (j : Int))))
              have : vqI u.toNat (hkN (M s) (i : Int) (j : Int)) = (vqN u.toNat h : Int) := by
                unfold vqI
                rw [eh, Int.toNat_natCast]
              omega) (f1.tr w2)
            rw [Int.natCast_succ] at this
            exact this
      refine r_Mod_fillingsOf_48 ?_
      simp only [hT, g1, zrI, zrL, zrR, Shp_wI, Shp_wJ, zR_wI, zR_wJ, zJ_wI, zI_wJ, zobj_wI, zobj_wJ, zarr_wI, zarr_wJ, zS_wI, zS_wJ, o_192, a_193, a_194, a_195, a_196, a_197, a_198, a_199, a_200, a_201, a_202, a_203, a_204, a_205, a_206, a_207, a_208, a_209, a_210, r_192_0, r_192_1, r_192_2, r_192_3, r_192_4, r_192_5, r_192_7, r_192_8, r_192_14, r_192_16, r_192_17, r_192_18, r_192_19, r_192_20, r_192_22, r_192_23, r_192_25, r_192_26, zrI, zrL, zrR, ne_eq, true_and, and_true, true_or, or_true, not_true_eq_false, not_false_eq_true, false_and, and_false, forall_const, true_implies, false_implies, implies_true, reduceCtorEq, Int.reduceEq, Int.reduceNe, Int.reduceLT, Int.reduceLE, Int.reduceNeg, Nat.reduceEqDiff, if_true, if_false, reduceIte, Int.reduceMul, Int.reduceAdd, Int.reduceSub]
      refine ⟨by omega, fun w => by omega, fun _ => k61 (ga (M s) (i : Int)).toNat 0 _ τ (by omega) (fun v v0 v1 => ?_) f1⟩
      have hv := ho v v0 v1
      rw [hv]
      show sm (vqI v.toNat) (n + 1) - hkS (vqI v.toNat) (M s) i = sm (vqI v.toNat) (n + 1) - (hkS (vqI v.toNat) (M s) i + 0)
      omega
  have k29 : ∀ (e k : Nat) (u4 u5 u6 : PV) (τ : ZM), (k + e = n + 1 ∨ (e = 0 ∧ k = 2 ∧ n = 0)) → 2 ≤ k → Op τ (fun u => sm (vqI u.toNat) k) → Fr (fun a => a = 207) σ τ → WP m_Mod_fillingsOf 29 [zr 192, zi s, zi (n : Int), zi (k : Int), u4, u5, u6] [] τ (0, 0) Q := by
    intro e
    induction e with
    | zero =>
      intro k u4 u5 u6 τ hk k2 ho f1
      refine r_Mod_fillingsOf_29 ⟨fun _ => k48 (M s).length 0 _ _ _ _ τ (by omega) (fun v v0 v1 => ?_) f1, fun w => by omega⟩
      have hv := ho v v0 v1
      rw [hv]
      show sm (vqI v.toNat) k = sm (vqI v.toNat) (n + 1) - 0
      rcases hk with w | w
      · rw [show k = n + 1 by omega]
        omega
      · rw [w.2.1, w.2.2]
        have h0 := vq_small v.toNat (by omega)
        show 0 + vqI v.toNat ((0 : Nat) : Int) + vqI v.toNat ((1 : Nat) : Int) = 0 + vqI v.toNat ((0 : Nat) : Int) - 0
        have e1 : vqI v.toNat ((1 : Nat) : Int) = 0 := by
          unfold vqI
          rw [Int.toNat_natCast, h0.2]
          rfl
        omega
    | succ e ih =>
      intro k u4 u5 u6 τ hk k2 ho f1
      have hT := f1.shp hS
      refine r_Mod_fillingsOf_29 ?_
      simp only [hT, zrI, zrL, zrR, Shp_wI, Shp_wJ, zR_wI, zR_wJ, zJ_wI, zI_wJ, zobj_wI, zobj_wJ, zarr_wI, zarr_wJ, zS_wI, zS_wJ, o_192, a_193, a_194, a_195, a_196, a_197, a_198, a_199, a_200, a_201, a_202, a_203, a_204, a_205, a_206, a_207, a_208, a_209, a_210, r_192_0, r_192_1, r_192_2, r_192_3, r_192_4, r_192_5, r_192_7, r_192_8, r_192_14, r_192_16, r_192_17, r_192_18, r_192_19, r_192_20, r_192_22, r_192_23, r_192_25, r_192_26, zrI, zrL, zrR, ne_eq, true_and, and_true, true_or, or_true, not_true_eq_false, not_false_eq_true, false_and, and_false, forall_const, true_implies, false_implies, implies_true, reduceCtorEq, Int.reduceEq, Int.reduceNe, Int.reduceLT, Int.reduceLE, Int.reduceNeg, Nat.reduceEqDiff, if_true, if_false, reduceIte, Int.reduceMul, Int.reduceAdd, Int.reduceSub]
      refine ⟨fun w => by omega, fun _ => t_split hT ho (by omega) (by omega) (Or.inl rfl) (fun u u0 u1 => ?_) (fun ξ w1 w2 => ⟨by omega, ?_⟩)⟩
      · have b2 := sm_bd (f := vqI u.toNat) (B := 5) k (fun v v0 v1 => vqI_bd (by omega) v0 (by omega))
        show -2000000 ≤ sm (vqI u.toNat) k ∧ sm (vqI u.toNat) k ≤ 2000000
        omega
      · have := ih (k + 1) u4 u5 u6 ξ (by omega) (by omega) (fun u u0 u1 => by
          have hv := w1 u u0 u1
          rw [hv]
          show sm (vqI u.toNat) k + 1 * (vqN u.toNat k : Int) = sm (vqI u.toNat) k + vqI u.toNat (k : Int)
          unfold vqI
          rw [Int.toNat_natCast]
          omega) (f1.tr w2)
        rw [Int.natCast_succ] at this
        exact this
  have k2 : ∀ (e i : Nat) (u3 u4 u5 u6 : PV) (τ : ZM), i + e = 31 → (∀ v : Int, 0 ≤ v → v < (i : Int) → zI τ 207 v = 0) → Fr (fun a => a = 207) σ τ → WP m_Mod_fillingsOf 2 [zr 192, zi s, zi (i : Int), u3, u4, u5, u6] [] τ (0, 0) Q := by
    intro e
    induction e with
    | zero =>
      intro i u3 u4 u5 u6 τ hi ho f1
      have hT := f1.shp hS
      have mT := f1.ms (by omega) (by omega) m
      refine r_Mod_fillingsOf_2 ?_
      simp only [hT, zrI, zrL, zrR, Shp_wI, Shp_wJ, zR_wI, zR_wJ, zJ_wI, zI_wJ, zobj_wI, zobj_wJ, zarr_wI, zarr_wJ, zS_wI, zS_wJ, o_192, a_193, a_194, a_195, a_196, a_197, a_198, a_199, a_200, a_201, a_202, a_203, a_204, a_205, a_206, a_207, a_208, a_209, a_210, r_192_0, r_192_1, r_192_2, r_192_3, r_192_4, r_192_5, r_192_7, r_192_8, r_192_14, r_192_16, r_192_17, r_192_18, r_192_19, r_192_20, r_192_22, r_192_23, r_192_25, r_192_26, zrI, zrL, zrR, ne_eq, true_and, and_true, true_or, or_true, not_true_eq_false, not_false_eq_true, false_and, and_false, forall_const, true_implies, false_implies, implies_true, reduceCtorEq, Int.reduceEq, Int.reduceNe, Int.reduceLT, Int.reduceLE, Int.reduceNeg, Nat.reduceEqDiff, if_true, if_false, reduceIte, Int.reduceMul, Int.reduceAdd, Int.reduceSub]
      refine ⟨fun _ => t_mSize hT mT s0 s1 hp ?_, fun w => by omega⟩
      simp only [zrI, zrL, zrR, ne_eq, true_and, and_true, true_or, or_true, not_true_eq_false, not_false_eq_true, false_and, and_false, forall_const, true_implies, false_implies, implies_true, reduceCtorEq, Int.reduceEq, Int.reduceNe, Int.reduceLT, Int.reduceLE, Int.reduceNeg, Nat.reduceEqDiff, if_true, if_false, reduceIte, Int.reduceMul, Int.reduceAdd, Int.reduceSub]
      rw [en]
      refine k29 (n - 1) 2 _ _ _ τ (by omega) (by omega) (fun v v0 v1 => ?_) f1
      rw [ho v v0 (by omega)]
      have h0 := vq_small v.toNat (by omega)
      show (0 : Int) = 0 + vqI v.toNat ((0 : Nat) : Int) + vqI v.toNat ((1 : Nat) : Int)
      unfold vqI
      rw [Int.toNat_natCast, Int.toNat_natCast, h0.1, h0.2]
      rfl
    | succ e ih =>
      intro i u3 u4 u5 u6 τ hi ho f1
      have hT := f1.shp hS
      refine r_Mod_fillingsOf_2 ?_
      simp only [hT, zrI, zrL, zrR, Shp_wI, Shp_wJ, zR_wI, zR_wJ, zJ_wI, zI_wJ, zobj_wI, zobj_wJ, zarr_wI, zarr_wJ, zS_wI, zS_wJ, o_192, a_193, a_194, a_195, a_196, a_197, a_198, a_199, a_200, a_201, a_202, a_203, a_204, a_205, a_206, a_207, a_208, a_209, a_210, r_192_0, r_192_1, r_192_2, r_192_3, r_192_4, r_192_5, r_192_7, r_192_8, r_192_14, r_192_16, r_192_17, r_192_18, r_192_19, r_192_20, r_192_22, r_192_23, r_192_25, r_192_26, zrI, zrL, zrR, ne_eq, true_and, and_true, true_or, or_true, not_true_eq_false, not_false_eq_true, false_and, and_false, forall_const, true_implies, false_implies, implies_true, reduceCtorEq, Int.reduceEq, Int.reduceNe, Int.reduceLT, Int.reduceLE, Int.reduceNeg, Nat.reduceEqDiff, if_true, if_false, reduceIte, Int.reduceMul, Int.reduceAdd, Int.reduceSub]
      have := ih (i + 1) u3 u4 u5 u6 (wI τ 207 (i : Int) 0) (by omega) (fun v v0 v1 => by
        rw [zI_wI]
        by_cases c : v = (i : Int)
        · rw [if_pos ⟨rfl, c⟩]
        · rw [if_neg (by omega)]
          exact ho v v0 (by omega)) (f1.tr (Fr.wI rfl))
      rw [Int.natCast_succ] at this
      exact ⟨fun w => by omega, fun _ => ⟨by omega, by omega, this⟩⟩
  exact r_Mod_fillingsOf_0 (k2 31 0 _ _ _ _ σ (by omega) (fun v v0 v1 => by omega) Fr.rf)
