/-! move, of the reference; what move makes is a SUM -/
/-- a list told by its places -/
def tbl (f : Int → Int) (n : Nat) : List Int := (List.range n).map (fun (j : Nat) => f (j : Int))
theorem tbl_snoc {f : Int → Int} {n : Nat} : tbl f (n + 1) = tbl f n ++ [f (n : Int)] := by
  unfold tbl
  rw [List.range_succ, List.map_append]
  rfl
theorem tbl_len {f : Int → Int} {n : Nat} : (tbl f n).length = n := by
  unfold tbl
  rw [List.length_map, List.length_range]
theorem tbl_sum {f : Int → Int} : ∀ n : Nat, (tbl f n).sum = sm f n
  | 0 => rfl
  | n + 1 => by
    rw [tbl_snoc, List.sum_append, tbl_sum n]
    show sm f n + (f (n : Int) + 0) = sm f n + f (n : Int)
    omega
theorem ga_tbl {f : Int → Int} {n : Nat} {i : Int} (i0 : 0 ≤ i) (i1 : i < (n : Int)) : ga (tbl f n) i = f i := by
  induction n with
  | zero => omega
  | succ n ih =>
    rw [tbl_snoc, ga_app, tbl_len]
    by_cases c : i = (n : Int)
    · rw [if_pos c, c]
    · rw [if_neg c]
      exact ih (by omega)
theorem tbl_ext {f g : Int → Int} : ∀ n : Nat, (∀ i : Int, 0 ≤ i → i < (n : Int) → f i = g i) → tbl f n = tbl g n
  | 0, _ => rfl
  | n + 1, h => by
    rw [tbl_snoc, tbl_snoc, tbl_ext n (fun i i0 i1 => h i i0 (by omega)), h (n : Int) (by omega) (by omega)]
theorem tbl_take {l : List Int} : ∀ n : Nat, n ≤ l.length → tbl (ga l) n = l.take n
  | 0, _ => rfl
  | n + 1, h => by
    have e := take_snoc (l := l) (i := (n : Int)) (by omega) (by omega)
    rw [show ((n : Int) + 1).toNat = n + 1 by omega, Int.toNat_natCast] at e
    rw [tbl_snoc, tbl_take n (by omega), e]
theorem sm_mono {f g : Int → Int} : ∀ n : Nat, (∀ i : Int, 0 ≤ i → i < (n : Int) → f i ≤ g i) → sm f n ≤ sm g n
  | 0, _ => Int.le_refl _
  | n + 1, h => by
    have h1 := sm_mono n (fun i i0 i1 => h i i0 (by omega))
    have h2 := h (n : Int) (by omega) (by omega)
    show sm f n + f (n : Int) ≤ sm g n + g (n : Int)
    omega
theorem sm_ge0 {f : Int → Int} (n : Nat) (h : ∀ i : Int, 0 ≤ i → i < (n : Int) → 0 ≤ f i) : 0 ≤ sm f n := by
  have := sm_mono (f := fun _ => 0) n h
  rw [sm_zero] at this
  exact this
theorem Pt_tbl {f : Int → Int} : ∀ n : Nat, (∀ i : Int, 0 ≤ i → i < (n : Int) → 1 ≤ f i) → sm f n ≤ 400 → (∀ i : Int, 0 ≤ i → i + 1 < (n : Int) → f (i + 1) ≤ f i) → Pt (tbl f n)
  | 0, _, _, _ => by
    refine ⟨fun x hx => (by cases hx), (by show (0 : Int) ≤ 400; omega), fun i j i0 h => ?_⟩
    show ga [] j ≤ ga [] i
    rw [ga_out (l := []) (by simp; omega), ga_out (l := []) (by simp; omega)]
    exact Int.le_refl _
  | n + 1, h1, h2, h3 => by
    have p1 := h1 (n : Int) (by omega) (by omega)
    have h2' : sm f n + f (n : Int) ≤ 400 := h2
    rw [tbl_snoc]
    refine Pt_snoc (Pt_tbl n (fun i i0 i1 => h1 i i0 (by omega)) (by omega) (fun i i0 i1 => h3 i i0 (by omega))) p1 ?_ (by rw [tbl_sum]; exact h2')
    rw [tbl_len]
    by_cases c : (n : Int) = 0
    · exact Or.inl c
    · refine Or.inr ?_
      rw [ga_tbl (by omega) (by omega)]
      have := h3 ((n : Int) - 1) (by omega) (by omega)
      rw [show (n : Int) - 1 + 1 = (n : Int) by omega] at this
      exact this
theorem shL_tbl {l : List Int} {k e : Int} {n : Nat} : shL l k e n = tbl (fun j => if j < k then ga l j + e else ga l j) n := rfl
theorem shL_zero {l : List Int} {e : Int} {n : Nat} (h : n ≤ l.length) : shL l 0 e n = l.take n := by
  rw [shL_tbl, ← tbl_take n h]
  exact tbl_ext n (fun i i0 i1 => by rw [if_neg (by omega)])
theorem t_mMove {Q : ZQ} {σ : ZM} {M : Int → List Int} {s : Int} (hS : Shp σ) (m : MS σ M) (s0 : 0 ≤ s) (s1 : s ≤ 7) (hp : Pt (M s)) (hn4 : (M s).length < 400) (q : ∀ r, fRun (M s) r → ∀ σ', MS σ' (upS M 8 (mvL (M s) r)) → Fr mfr σ σ' → Q zu σ') : WP m_Mod_move 0 [zr 192, zi s, zu, zu, zu, zu] [] σ (0, 0) Q := by
  have e8 : ∀ acc : List Int, upS M 8 acc s = M s := fun acc => by unfold upS; rw [if_neg (by omega)]
  have hw := hp.rng (((M s).length : Int) - 1)
  have hT8 : ∀ acc : List Int, upS M 8 acc 8 = acc := fun acc => by unfold upS; rw [if_pos rfl]
  refine r_Mod_move_0 ?_
  simp only [hS, zrI, zrL, zrR, Shp_wI, Shp_wJ, zR_wI, zR_wJ, zJ_wI, zI_wJ, zobj_wI, zobj_wJ, zarr_wI, zarr_wJ, zS_wI, zS_wJ, o_192, a_193, a_194, a_195, a_196, a_197, a_198, a_199, a_200, a_201, a_202, a_203, a_204, a_205, a_206, a_207, a_208, a_209, a_210, r_192_0, r_192_1, r_192_2, r_192_3, r_192_4, r_192_5, r_192_7, r_192_8, r_192_14, r_192_16, r_192_17, r_192_18, r_192_19, r_192_20, r_192_22, r_192_23, r_192_25, r_192_26, zrI, zrL, zrR, ne_eq, true_and, and_true, true_or, or_true, not_true_eq_false, not_false_eq_true, false_and, and_false, forall_const, true_implies, false_implies, implies_true, reduceCtorEq, Int.reduceEq, Int.reduceNe, Int.reduceLT, Int.reduceLE, Int.reduceNeg, Nat.reduceEqDiff, if_true, if_false, reduceIte, Int.reduceMul, Int.reduceAdd, Int.reduceSub]
  refine t_mGive hS m s0 (by omega) (by omega) (by omega) (fun τ w1 w2 => ?_)
  have hT := w2.shp hS
  have g1 := (w1 s s0 (by omega)).1
  have g8 := (w1 8 (by omega) (by omega)).1
  rw [e8] at g1
  rw [hT8] at g8
  have tk : Unit → ∀ r, fRun (M s) r → ((M s).length = 0 ∨ (r = ((M s).length : Int) ∧ (ga (M s) (((M s).length : Int) - 1) = r ∨ ga (M s) (((M s).length : Int) - 1) = r + 1))) → Q zu τ := fun _ r hr c => q r hr τ (by unfold mvL; rw [if_pos c]; exact w1) w2
  have dn : Unit → ∀ r, fRun (M s) r → ¬ ((M s).length = 0 ∨ (r = ((M s).length : Int) ∧ (ga (M s) (((M s).length : Int) - 1) = r ∨ ga (M s) (((M s).length : Int) - 1) = r + 1))) → r < ga (M s) (((M s).length : Int) - 1) → ∀ u1 u2 u3, WP m_Mod_move 144 [zr 192, u1, u2, u3, zi r, zi 0] [] τ (0, 0) Q := fun _ r hr c c2 u1 u2 u3 => by
    have hr1 := hr.1
    have mT : MS τ (upS M 8 (shL (M s) ((0 : Nat) : Int) (-1) (M s).length)) := by
      rw [show ((0 : Nat) : Int) = 0 by rfl, shL_zero (Nat.le_refl _), List.take_length]
      exact w1
    have := t_mMove_144 (Q := Q) (k := r.toNat) (n := (M s).length) hp (by omega) hn4 r.toNat 0 u1 u2 u3 τ (by omega) hT mT (fun υ j1 j2 => q r hr υ (by
      unfold mvL
      rw [if_neg c, if_pos c2]
      rw [show ((r.toNat : Nat) : Int) = r by omega] at j1
      exact j1) (w2.tr j2))
    rw [show ((r.toNat : Nat) : Int) = r by omega, show ((0 : Nat) : Int) = 0 by rfl] at this
    exact this
  have up : Unit → ∀ r, fRun (M s) r → ¬ ((M s).length = 0 ∨ (r = ((M s).length : Int) ∧ (ga (M s) (((M s).length : Int) - 1) = r ∨ ga (M s) (((M s).length : Int) - 1) = r + 1))) → ga (M s) (((M s).length : Int) - 1) ≤ r → ∀ u1 u2 u4, WP m_Mod_move 111 [zr 192, u1, u2, zi (ga (M s) (((M s).length : Int) - 1)), u4, zi 0] [] (wI τ 195 8 (((M s).length : Int) - 1)) (0, 0) Q := fun _ r hr c c2 u1 u2 u4 => by
    have hr1 := hr.1
    have hnz : (M s).length ≠ 0 := fun w => c (Or.inl w)
    have hle : (ga (M s) (((M s).length : Int) - 1)).toNat ≤ (M s).length - 1 ∨ (ga (M s) (((M s).length : Int) - 1)).toNat = (M s).length := by omega
    have mT : MS (wI τ 195 8 (((M s).length : Int) - 1)) (upS M 8 (shL (M s) ((0 : Nat) : Int) 1 ((M s).length - 1))) := by
      rw [show ((0 : Nat) : Int) = 0 by rfl, shL_zero (by omega)]
      intro u u0 u1
      obtain ⟨h1, h2, h3⟩ := w1 u u0 u1
      unfold upS at h1 h2 h3 ⊢
      by_cases e : u = 8
      · rw [if_pos e] at h1 h2 h3 ⊢
        rw [List.length_take]
        refine ⟨by rw [zI_wI, if_pos ⟨rfl, e⟩]; omega, by omega, fun i i0 i1 => ?_⟩
        rw [zI_wI, if_neg (by omega), h3 i i0 (by omega)]
        rw [← tbl_take _ (by omega), ga_tbl i0 (by omega)]
      · rw [if_neg e] at h1 h2 h3 ⊢
        refine ⟨by rw [zI_wI, if_neg (by omega)]; exact h1, h2, fun i i0 i1 => ?_⟩
        rw [zI_wI, if_neg (by omega)]
        exact h3 i i0 i1
    have f1 : Fr mfr τ (wI τ 195 8 (((M s).length : Int) - 1)) := Fr.wI (Or.inr rfl)
    rcases hle with hle | hle
    · have := t_mMove_111 (Q := Q) (k := (ga (M s) (((M s).length : Int) - 1)).toNat) (n := (M s).length - 1) hp hle (by omega) (ga (M s) (((M s).length : Int) - 1)).toNat 0 u1 u2 u4 _ (by omega) (f1.shp hT) mT (fun υ j1 j2 => q r hr υ (by
        unfold mvL
        rw [if_neg c, if_neg (by omega)]
        rw [show (((ga (M s) (((M s).length : Int) - 1)).toNat : Nat) : Int) = ga (M s) (((M s).length : Int) - 1) by omega] at j1
        exact j1) ((w2.tr f1).tr j2))
      rw [show (((ga (M s) (((M s).length : Int) - 1)).toNat : Nat) : Int) = ga (M s) (((M s).length : Int) - 1) by omega, show ((0 : Nat) : Int) = 0 by rfl] at this
      exact this
    · exact absurd (Or.inr ⟨by omega, Or.inl (by omega)⟩) c
  have lf : Unit → ∀ r, fRun (M s) r → (M s).length ≠ 0 → ∀ u1 u2 u3 u4, (((r = ((M s).length : Int) ∧ (ga (M s) (((M s).length : Int) - 1) = r ∨ ga (M s) (((M s).length : Int) - 1) = r + 1)) → Q zu τ) ∧ (¬ (r = ((M s).length : Int) ∧ (ga (M s) (((M s).length : Int) - 1) = r ∨ ga (M s) (((M s).length : Int) - 1) = r + 1)) → r < ga (M s) (((M s).length : Int) - 1) → WP m_Mod_move 144 [zr 192, u1, u2, u3, zi r, zi 0] [] τ (0, 0) Q) ∧ (¬ (r = ((M s).length : Int) ∧ (ga (M s) (((M s).length : Int) - 1) = r ∨ ga (M s) (((M s).length : Int) - 1) = r + 1)) → ga (M s) (((M s).length : Int) - 1) ≤ r → WP m_Mod_move 111 [zr 192, u1, u2, zi (ga (M s) (((M s).length : Int) - 1)), u4, zi 0] [] (wI τ 195 8 (((M s).length : Int) - 1)) (0, 0) Q)) := fun _ r hr hz u1 u2 u3 u4 => ⟨fun c => tk () r hr (Or.inr c), fun c c2 => dn () r hr (fun w => w.elim hz c) c2 u1 u2 u3, fun c c2 => up () r hr (fun w => w.elim hz c) c2 u1 u2 u4⟩
  clear tk dn up
  have k31 : (M s).length ≠ 0 → ∀ (e : Nat) (i : Int) (u : PV), 1 ≤ i → i + e = ((M s).length : Int) → (∀ y, 1 ≤ y → y < i → ga (M s) y = ga (M s) (y - 1) - 1) → WP m_Mod_move 31 [zr 192, zi s, zi ((M s).length : Int), zi (ga (M s) (((M s).length : Int) - 1)), zi i, u] [] τ (0, 0) Q := by
    intro hz e
    induction e with
    | zero =>
      intro i u i1 hi hn
      have lf' := lf () i ⟨⟨by omega, by omega⟩, hn, fun c => by omega⟩ hz (zi s) (zi ((M s).length : Int)) (zi (ga (M s) (((M s).length : Int) - 1))) (zi i)
      obtain ⟨l1, l2, l3⟩ := lf'
      refine r_Mod_move_31 ?_
      simp only [hT, g8, zrI, zrL, zrR, Shp_wI, Shp_wJ, zR_wI, zR_wJ, zJ_wI, zI_wJ, zobj_wI, zobj_wJ, zarr_wI, zarr_wJ, zS_wI, zS_wJ, o_192, a_193, a_194, a_195, a_196, a_197, a_198, a_199, a_200, a_201, a_202, a_203, a_204, a_205, a_206, a_207, a_208, a_209, a_210, r_192_0, r_192_1, r_192_2, r_192_3, r_192_4, r_192_5, r_192_7, r_192_8, r_192_14, r_192_16, r_192_17, r_192_18, r_192_19, r_192_20, r_192_22, r_192_23, r_192_25, r_192_26, zrI, zrL, zrR, ne_eq, true_and, and_true, true_or, or_true, not_true_eq_false, not_false_eq_true, false_and, and_false, forall_const, true_implies, false_implies, implies_true, reduceCtorEq, Int.reduceEq, Int.reduceNe, Int.reduceLT, Int.reduceLE, Int.reduceNeg, Nat.reduceEqDiff, if_true, if_false, reduceIte, Int.reduceMul, Int.reduceAdd, Int.reduceSub]
      generalize ga (M s) (((M s).length : Int) - 1) = last at *
      generalize hW1 : WP m_Mod_move 144 _ _ _ _ _ = W1 at *
      generalize hW2 : WP m_Mod_move 111 _ _ _ _ _ = W2 at *
      refine ⟨fun _ => ⟨fun c => ⟨by omega, fun c2 => ⟨fun c3 => l2 (by omega) c3, fun c3 => ⟨by omega, l3 (by omega) c3⟩⟩, fun c2 => ⟨fun c3 => by omega, fun c3 => l1 (by omega)⟩⟩, fun c => ⟨fun c2 => l1 (by omega), fun c2 => by omega⟩⟩, fun c => by omega⟩
    | succ e ih =>
      intro i u i1 hi hn
      have r1 := hp.rng i
      have r2 := hp.rng (i - 1)
      refine r_Mod_move_31 ?_
      simp only [hT, g8, zrI, zrL, zrR, Shp_wI, Shp_wJ, zR_wI, zR_wJ, zJ_wI, zI_wJ, zobj_wI, zobj_wJ, zarr_wI, zarr_wJ, zS_wI, zS_wJ, o_192, a_193, a_194, a_195, a_196, a_197, a_198, a_199, a_200, a_201, a_202, a_203, a_204, a_205, a_206, a_207, a_208, a_209, a_210, r_192_0, r_192_1, r_192_2, r_192_3, r_192_4, r_192_5, r_192_7, r_192_8, r_192_14, r_192_16, r_192_17, r_192_18, r_192_19, r_192_20, r_192_22, r_192_23, r_192_25, r_192_26, zrI, zrL, zrR, ne_eq, true_and, and_true, true_or, or_true, not_true_eq_false, not_false_eq_true, false_and, and_false, forall_const, true_implies, false_implies, implies_true, reduceCtorEq, Int.reduceEq, Int.reduceNe, Int.reduceLT, Int.reduceLE, Int.reduceNeg, Nat.reduceEqDiff, if_true, if_false, reduceIte, Int.reduceMul, Int.reduceAdd, Int.reduceSub]
      refine ⟨fun c => by omega, fun _ => t_mAt hT w1 s0 (by omega) (by omega) ?_⟩
      rw [e8]
      simp only [hT, zrI, zrL, zrR, Shp_wI, Shp_wJ, zR_wI, zR_wJ, zJ_wI, zI_wJ, zobj_wI, zobj_wJ, zarr_wI, zarr_wJ, zS_wI, zS_wJ, o_192, a_193, a_194, a_195, a_196, a_197, a_198, a_199, a_200, a_201, a_202, a_203, a_204, a_205, a_206, a_207, a_208, a_209, a_210, r_192_0, r_192_1, r_192_2, r_192_3, r_192_4, r_192_5, r_192_7, r_192_8, r_192_14, r_192_16, r_192_17, r_192_18, r_192_19, r_192_20, r_192_22, r_192_23, r_192_25, r_192_26, zrI, zrL, zrR, ne_eq, true_and, and_true, true_or, or_true, not_true_eq_false, not_false_eq_true, false_and, and_false, forall_const, true_implies, false_implies, implies_true, reduceCtorEq, Int.reduceEq, Int.reduceNe, Int.reduceLT, Int.reduceLE, Int.reduceNeg, Nat.reduceEqDiff, if_true, if_false, reduceIte, Int.reduceMul, Int.reduceAdd, Int.reduceSub]
      refine ⟨by omega, t_mAt hT w1 s0 (by omega) (by omega) ?_⟩
      rw [e8]
      simp only [hT, g8, zrI, zrL, zrR, Shp_wI, Shp_wJ, zR_wI, zR_wJ, zJ_wI, zI_wJ, zobj_wI, zobj_wJ, zarr_wI, zarr_wJ, zS_wI, zS_wJ, o_192, a_193, a_194, a_195, a_196, a_197, a_198, a_199, a_200, a_201, a_202, a_203, a_204, a_205, a_206, a_207, a_208, a_209, a_210, r_192_0, r_192_1, r_192_2, r_192_3, r_192_4, r_192_5, r_192_7, r_192_8, r_192_14, r_192_16, r_192_17, r_192_18, r_192_19, r_192_20, r_192_22, r_192_23, r_192_25, r_192_26, zrI, zrL, zrR, ne_eq, true_and, and_true, true_or, or_true, not_true_eq_false, not_false_eq_true, false_and, and_false, forall_const, true_implies, false_implies, implies_true, reduceCtorEq, Int.reduceEq, Int.reduceNe, Int.reduceLT, Int.reduceLE, Int.reduceNeg, Nat.reduceEqDiff, if_true, if_false, reduceIte, Int.reduceMul, Int.reduceAdd, Int.reduceSub]
      refine ⟨by omega, fun cc => ?_, fun c => ⟨by omega, ih (i + 1) _ (by omega) (by omega) (fun y y1 y2 => ?_)⟩⟩
      · have lf' := lf () i ⟨⟨by omega, by omega⟩, hn, fun _ => cc⟩ hz (zi s) (zi ((M s).length : Int)) (zi (ga (M s) (((M s).length : Int) - 1))) (zi i)
        obtain ⟨l1, l2, l3⟩ := lf'
        clear ih
        generalize ga (M s) (((M s).length : Int) - 1) = last at *
        generalize hW1 : WP m_Mod_move 144 _ _ _ _ _ = W1 at *
        generalize hW2 : WP m_Mod_move 111 _ _ _ _ _ = W2 at *
        refine ⟨fun c => ⟨by omega, fun c2 => ⟨fun c3 => l2 (by omega) c3, fun c3 => ⟨by omega, l3 (by omega) c3⟩⟩, fun c2 => ⟨fun c3 => ⟨fun c4 => l2 (by omega) c4, fun c4 => by omega⟩, fun c3 => by omega⟩⟩, fun c => ⟨fun c2 => by omega, fun c2 => ⟨by omega, fun c3 => ⟨fun c4 => by omega, fun c4 => ⟨by omega, l3 (by omega) c4⟩⟩, fun c3 => by omega⟩⟩⟩
      · by_cases ey : y = i
        · rw [ey]; exact c
        · exact hn y y1 (by omega)
  simp only [hT, g1, zrI, zrL, zrR, Shp_wI, Shp_wJ, zR_wI, zR_wJ, zJ_wI, zI_wJ, zobj_wI, zobj_wJ, zarr_wI, zarr_wJ, zS_wI, zS_wJ, o_192, a_193, a_194, a_195, a_196, a_197, a_198, a_199, a_200, a_201, a_202, a_203, a_204, a_205, a_206, a_207, a_208, a_209, a_210, r_192_0, r_192_1, r_192_2, r_192_3, r_192_4, r_192_5, r_192_7, r_192_8, r_192_14, r_192_16, r_192_17, r_192_18, r_192_19, r_192_20, r_192_22, r_192_23, r_192_25, r_192_26, zrI, zrL, zrR, ne_eq, true_and, and_true, true_or, or_true, not_true_eq_false, not_false_eq_true, false_and, and_false, forall_const, true_implies, false_implies, implies_true, reduceCtorEq, Int.reduceEq, Int.reduceNe, Int.reduceLT, Int.reduceLE, Int.reduceNeg, Nat.reduceEqDiff, if_true, if_false, reduceIte, Int.reduceMul, Int.reduceAdd, Int.reduceSub]
  refine ⟨by omega, fun c => ⟨by omega, t_mAt hT w1 s0 (by omega) (by omega) ?_⟩, fun c => ?_⟩
  · rw [e8]
    simp only [zrI, zrL, zrR, ne_eq, true_and, and_true, true_or, or_true, not_true_eq_false, not_false_eq_true, false_and, and_false, forall_const, true_implies, false_implies, implies_true, reduceCtorEq, Int.reduceEq, Int.reduceNe, Int.reduceLT, Int.reduceLE, Int.reduceNeg, Nat.reduceEqDiff, if_true, if_false, reduceIte, Int.reduceMul, Int.reduceAdd, Int.reduceSub]
    exact k31 (by omega) ((M s).length - 1) 1 _ (by omega) (by omega) (fun y y1 y2 => by omega)
  · exact (q 0 ⟨⟨by omega, by omega⟩, fun y y1 y2 => by omega, fun c => by omega⟩ τ (by unfold mvL; rw [if_pos (Or.inl (by omega))]; exact w1) w2)
theorem unL_st {l : List Int} (h : unL l) {k : Int} (k0 : 0 ≤ k) : ∀ n : Nat, k + n ≤ (l.length : Int) → (n : Int) + ga l (k + n) ≤ ga l k
  | 0, _ => by rw [show k + ((0 : Nat) : Int) = k by omega]; omega
  | n + 1, c => by
    have h1 := unL_st h k0 n (by omega)
    have h2 := h (k + n) (by omega) (by omega)
    rw [show k + ((n + 1 : Nat) : Int) = k + (n : Int) + 1 by omega]
    omega
theorem unL_len {l : List Int} (hp : Pt l) (h : unL l) : l.length < 400 := by
  have hlen := hp.len
  have h4 := hp.2.1
  by_cases c : l.length < 400
  · exact c
  · have h1 := unL_st h (k := 0) (by omega) l.length (by omega)
    have h2 := mem_le l.tail (fun x hx => hp.1 x (List.mem_of_mem_tail hx))
    match l, hp, hlen, h4, c, h1 with
    | [], _, _, _, c, _ => simp at c
    | a :: t, hp, hlen, h4, c, h1 =>
      have h5 := sum_pos t (fun x hx => hp.1 x (List.mem_cons_of_mem _ hx))
      have h6 := hp.rng (0 + ((a :: t).length : Int))
      have h7 : ga (a :: t) 0 = a := rfl
      simp only [List.length_cons, List.sum_cons] at *
      omega
theorem sm_sh {l : List Int} {k e : Int} : ∀ n : Nat, 0 ≤ k → sm (fun j => if j < k then ga l j + e else ga l j) n = sm (fun j => ga l j) n + e * min k (n : Int)
  | 0, h => by
    rw [show min k ((0 : Nat) : Int) = 0 by omega, Int.mul_zero]
    rfl
  | n + 1, h => by
    show sm _ n + (if (n : Int) < k then ga l (n : Int) + e else ga l (n : Int)) = sm (fun j => ga l j) n + ga l (n : Int) + _
    rw [sm_sh n h]
    by_cases c : (n : Int) < k
    · rw [if_pos c, show min k (n : Int) = (n : Int) by omega, show min k ((n + 1 : Nat) : Int) = (n : Int) + 1 by omega, Int.mul_add]
      omega
    · rw [if_neg c, show min k (n : Int) = k by omega, show min k ((n + 1 : Nat) : Int) = k by omega]
      omega
theorem Pt_mvL {l : List Int} {r : Int} (hp : Pt l) (h : unL l) (hr : fRun l r) : Pt (mvL l r) := by
  have hr1 := hr.1
  have h4 := hp.2.1
  unfold mvL
  by_cases c : l.length = 0 ∨ (r = (l.length : Int) ∧ (ga l ((l.length : Int) - 1) = r ∨ ga l ((l.length : Int) - 1) = r + 1))
  · rw [if_pos c]; exact hp
  · rw [if_neg c]
    have hz : l.length ≠ 0 := fun w => c (Or.inl w)
    have es := sm_ga (l := l) l.length
    rw [List.take_length] at es
    by_cases c2 : r < ga l ((l.length : Int) - 1)
    · rw [if_pos c2, shL_tbl]
      have e1 := sm_sh (l := l) (k := r) (e := -1) l.length (by omega)
      rw [es, show min r (l.length : Int) = r by omega] at e1
      refine Pt_snoc (Pt_tbl l.length (fun i i0 i1 => ?_) (by omega) (fun i i0 i1 => ?_)) (by omega) (Or.inr ?_) (by rw [tbl_sum, e1]; omega)
      · have := hp.2.2 i ((l.length : Int) - 1) i0 (by omega)
        split <;> omega
      · have := h i i0 (by omega)
        split <;> split <;> omega
      · rw [tbl_len, ga_tbl (by omega) (by omega)]
        split <;> omega
    · rw [if_neg c2, shL_tbl]
      have hw := hp.pos (i := (l.length : Int) - 1) (by omega) (by omega)
      have e1 := sm_sh (l := l) (k := ga l ((l.length : Int) - 1)) (e := 1) (l.length - 1) (by omega)
      have e2 : sm (fun i => ga l i) l.length = sm (fun i => ga l i) (l.length - 1) + ga l ((l.length : Int) - 1) := by
        have : sm (fun i => ga l i) ((l.length - 1) + 1) = sm (fun i => ga l i) (l.length - 1) + ga l ((l.length - 1 : Nat) : Int) := rfl
        rw [show (l.length - 1) + 1 = l.length by omega, show ((l.length - 1 : Nat) : Int) = (l.length : Int) - 1 by omega] at this
        exact this
      refine Pt_tbl (l.length - 1) (fun i i0 i1 => ?_) (by omega) (fun i i0 i1 => ?_)
      · have := hp.pos (i := i) i0 (by omega)
        split <;> omega
      · have := h i i0 (by omega)
        split <;> split <;> omega
