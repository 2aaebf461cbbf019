/-! counts, of the reference -/
def MBoxV (σ : ZM) : Prop := ∀ p q r : Nat, p ≤ 60 → q ≤ 60 → r ≤ 60 → zJ σ 201 (61 * (61 * (p : Int) + (q : Int)) + (r : Int)) = Int64.ofNat (BB p q r)
def MBoxI (σ : ZM) : Prop := zI σ 192 15 = 0 ∨ MBoxV σ
def al2 (v : Nat) : Bool := decide (2 ≤ v)
def T2 : Nat → Nat → Nat := TB al2 400
def MTwoV (σ : ZM) : Prop := ∀ w r : Nat, w ≤ 60 → r ≤ 60 → zJ σ 208 (61 * (w : Int) + (r : Int)) = Int64.ofNat (T2 w r)
def MTwoI (σ : ZM) : Prop := zI σ 192 24 = 0 ∨ MTwoV σ
/-- laws, tables, boxes -/
def MCo (σ : ZM) (L : Int → LW) : Prop := MLaw σ L ∧ MTabI σ ∧ MBoxI σ ∧ MTwoI σ
theorem Fz.mboxI {P : Nat → Int → Prop} {σ σ' : ZM} (f : Fz P σ σ') (h0 : ¬ P 192 15) (h1 : ∀ j, ¬ P 201 j) (m : MBoxI σ) : MBoxI σ' := by
  unfold MBoxI
  rw [f.i h0]
  rcases m with e | e
  · exact Or.inl e
  · exact Or.inr (fun p q r a b c => (f.j (h1 _)).trans (e p q r a b c))
theorem Fz.mtwoI {P : Nat → Int → Prop} {σ σ' : ZM} (f : Fz P σ σ') (h0 : ¬ P 192 24) (h1 : ∀ j, ¬ P 208 j) (m : MTwoI σ) : MTwoI σ' := by
  unfold MTwoI
  rw [f.i h0]
  rcases m with e | e
  · exact Or.inl e
  · exact Or.inr (fun p q a b => (f.j (h1 _)).trans (e p q a b))
theorem Fz.mco {P : Nat → Int → Prop} {σ σ' : ZM} (f : Fz P σ σ') {L : Int → LW} (hP : ∀ a j, a = 193 ∨ (199 ≤ a ∧ a ≤ 201) ∨ a = 208 ∨ (a = 192 ∧ ((9 ≤ j ∧ j ≤ 13) ∨ j = 15 ∨ j = 24)) → ¬ P a j) (m : MCo σ L) : MCo σ' L :=
  ⟨f.mlaw (fun j => hP _ _ (by omega)) m.1, f.mtabI (fun j a b => hP _ _ (by omega)) (fun j => hP _ _ (by omega)) (fun j => hP _ _ (by omega)) m.2.1, f.mboxI (hP _ _ (by omega)) (fun j => hP _ _ (by omega)) m.2.2.1, f.mtwoI (hP _ _ (by omega)) (fun j => hP _ _ (by omega)) m.2.2.2⟩
theorem t_mInBox {Q : ZQ} {σ : ZM} {r p q : Int} (hS : Shp σ) (p0 : 0 ≤ p) (p1 : p ≤ 60) (q0 : 0 ≤ q) (q1 : q ≤ 60) (r1 : r ≤ 60) (k : Q (zl (if r < 0 then 0 else zJ σ 201 (61 * (61 * p + q) + r))) σ) : WP m_Mod_inBox 0 [zr 192, zi r, zi p, zi q] [] σ (0, 0) Q := by
  refine r_Mod_inBox_0 ?_
  simp only [hS, zrI, zrL, zrR, Shp_wI, Shp_wJ, zR_wI, zR_wJ, zJ_wI, zI_wJ, zobj_wI, zobj_wJ, zarr_wI, zarr_wJ, zS_wI, zS_wJ, o_192, a_193, a_194, a_195, a_196, a_197, a_198, a_199, a_200, a_201, a_202, a_203, a_204, a_205, a_206, a_207, a_208, a_209, a_210, r_192_0, r_192_1, r_192_2, r_192_3, r_192_4, r_192_5, r_192_7, r_192_8, r_192_14, r_192_16, r_192_17, r_192_18, r_192_19, r_192_20, r_192_22, r_192_23, r_192_25, r_192_26, zrI, zrL, zrR, ne_eq, true_and, and_true, true_or, or_true, not_true_eq_false, not_false_eq_true, false_and, and_false, forall_const, true_implies, false_implies, implies_true, reduceCtorEq, Int.reduceEq, Int.reduceNe, Int.reduceLT, Int.reduceLE, Int.reduceNeg, Nat.reduceEqDiff, if_true, if_false, reduceIte, Int.reduceMul, Int.reduceAdd, Int.reduceSub]
  refine ⟨fun c => ⟨by omega, by omega, by omega, by omega, by omega, ?_⟩, fun c => ?_⟩
  · rw [if_neg (by omega)] at k; exact k
  · rw [if_pos c] at k; exact k
theorem t_mInBoxV {Q : ZQ} {σ : ZM} {r p q : Int} (hS : Shp σ) (hV : MBoxV σ) (p0 : 0 ≤ p) (p1 : p ≤ 60) (q0 : 0 ≤ q) (q1 : q ≤ 60) (r1 : r ≤ 60) (k : Q (zl (bxL p q r)) σ) : WP m_Mod_inBox 0 [zr 192, zi r, zi p, zi q] [] σ (0, 0) Q := by
  refine t_mInBox hS p0 p1 q0 q1 r1 ?_
  unfold bxL at k
  by_cases c : r < 0
  · rw [if_pos (by omega)] at k
    rw [if_pos c]
    exact k
  · rw [if_neg (by omega)] at k
    have := hV p.toNat q.toNat r.toNat (by omega) (by omega) (by omega)
    rw [show (p.toNat : Int) = p by omega, show (q.toNat : Int) = q by omega, show (r.toNat : Int) = r by omega] at this
    rw [if_neg c, this]
    exact k
theorem t_mMakeBox {Q : ZQ} {σ : ZM} (hS : Shp σ) (hB : MBoxI σ) (k : ∀ σ', MBoxV σ' → Fz (fun a j => a = 201 ∨ (a = 192 ∧ j = 15)) σ σ' → Q zu σ') : WP m_Mod_makeBox 0 [zr 192, zu, zu, zu, zu, zu] [] σ (0, 0) Q := by
  refine r_Mod_makeBox_0 ?_
  simp only [hS, zrI, zrL, zrR, Shp_wI, Shp_wJ, zR_wI, zR_wJ, zJ_wI, zI_wJ, zobj_wI, zobj_wJ, zarr_wI, zarr_wJ, zS_wI, zS_wJ, o_192, a_193, a_194, a_195, a_196, a_197, a_198, a_199, a_200, a_201, a_202, a_203, a_204, a_205, a_206, a_207, a_208, a_209, a_210, r_192_0, r_192_1, r_192_2, r_192_3, r_192_4, r_192_5, r_192_7, r_192_8, r_192_14, r_192_16, r_192_17, r_192_18, r_192_19, r_192_20, r_192_22, r_192_23, r_192_25, r_192_26, zrI, zrL, zrR, ne_eq, true_and, and_true, true_or, or_true, not_true_eq_false, not_false_eq_true, false_and, and_false, forall_const, true_implies, false_implies, implies_true, reduceCtorEq, Int.reduceEq, Int.reduceNe, Int.reduceLT, Int.reduceLE, Int.reduceNeg, Nat.reduceEqDiff, if_true, if_false, reduceIte, Int.reduceMul, Int.reduceAdd, Int.reduceSub]
  refine ⟨fun c => ?_, fun c => ?_⟩
  · have l3 : ∀ (p q : Nat), p ≤ 60 → q ≤ 60 → (∀ (τ : ZM) (u3 u4 u5 : PV), (∀ p' q' r' : Nat, p' ≤ 60 → q' ≤ 60 → r' ≤ 60 → 61 * (61 * p' + q') + r' < 61 * (61 * p + (q + 1)) → zJ τ 201 (61 * (61 * (p' : Int) + (q' : Int)) + (r' : Int)) = Int64.ofNat (BB p' q' r')) → Fz (fun a j => a = 201 ∨ (a = 192 ∧ j = 15)) σ τ → WP m_Mod_makeBox 23 [zr 192, zi (p : Int), zi ((q : Int) + 1), u3, u4, u5] [] τ (0, 0) Q) →
        ∀ (m r : Nat) (τ : ZM) (u4 u5 : PV), r + m = 61 → (∀ p' q' r' : Nat, p' ≤ 60 → q' ≤ 60 → r' ≤ 60 → 61 * (61 * p' + q') + r' < 61 * (61 * p + q) + r → zJ τ 201 (61 * (61 * (p' : Int) + (q' : Int)) + (r' : Int)) = Int64.ofNat (BB p' q' r')) → Fz (fun a j => a = 201 ∨ (a = 192 ∧ j = 15)) σ τ → WP m_Mod_makeBox 31 [zr 192, zi (p : Int), zi (q : Int), zi (r : Int), u4, u5] [] τ (0, 0) Q := by
      intro p q p6 q6 next m
      induction m with
      | zero =>
        intro r τ u4 u5 hm hv f
        exact r_Mod_makeBox_31 ⟨fun _ => ⟨by omega, next τ _ _ _ (fun p' q' r' a b c d => hv p' q' r' a b c (by omega)) f⟩, fun c => by omega⟩
      | succ m ih =>
        intro r τ u4 u5 hm hv f
        have hT := f.shp hS
        have go : ∀ (x : Int64) (u4 u5 : PV), x = Int64.ofNat (BB p q r) → WP m_Mod_makeBox 31 [zr 192, zi (p : Int), zi (q : Int), zi ((r : Int) + 1), u4, u5] [] (wJ τ 201 (61 * (61 * (p : Int) + (q : Int)) + (r : Int)) x) (0, 0) Q := fun x u4 u5 hx => by
          have := ih (r + 1) (wJ τ 201 (61 * (61 * (p : Int) + (q : Int)) + (r : Int)) x) u4 u5 (by omega) (fun p' q' r' a b c d => ?_) (f.tr (Fz.wJ (Or.inl rfl)))
          · rw [Int.natCast_succ] at this
            exact this
          · rw [zJ_wJ]
            by_cases e : 61 * (61 * p' + q') + r' = 61 * (61 * p + q) + r
            · rw [if_pos ⟨rfl, by omega⟩, show p' = p by omega, show q' = q by omega, show r' = r by omega, hx]
            · rw [if_neg (by omega)]
              exact hv p' q' r' a b c (by omega)
        refine r_Mod_makeBox_31 ?_
        simp only [hT, zrI, zrL, zrR, Shp_wI, Shp_wJ, zR_wI, zR_wJ, zJ_wI, zI_wJ, zobj_wI, zobj_wJ, zarr_wI, zarr_wJ, zS_wI, zS_wJ, o_192, a_193, a_194, a_195, a_196, a_197, a_198, a_199, a_200, a_201, a_202, a_203, a_204, a_205, a_206, a_207, a_208, a_209, a_210, r_192_0, r_192_1, r_192_2, r_192_3, r_192_4, r_192_5, r_192_7, r_192_8, r_192_14, r_192_16, r_192_17, r_192_18, r_192_19, r_192_20, r_192_22, r_192_23, r_192_25, r_192_26, zrI, zrL, zrR, ne_eq, true_and, and_true, true_or, or_true, not_true_eq_false, not_false_eq_true, false_and, and_false, forall_const, true_implies, false_implies, implies_true, reduceCtorEq, Int.reduceEq, Int.reduceNe, Int.reduceLT, Int.reduceLE, Int.reduceNeg, Nat.reduceEqDiff, if_true, if_false, reduceIte, Int.reduceMul, Int.reduceAdd, Int.reduceSub]
        refine ⟨fun c => by omega, fun _ => ⟨fun c => ⟨fun c2 => ⟨by omega, by omega, by omega, by omega, by omega, by omega, go _ _ _ ?_⟩, fun c2 => ⟨fun c3 => ⟨by omega, t_mInBox hT (by omega) (by omega) (by omega) (by omega) (by omega) ?_⟩, fun c3 => ⟨by omega, by omega, by omega, by omega, by omega, by omega, go _ _ _ ?_⟩⟩⟩, fun c => ⟨by omega, by omega, by omega, by omega, by omega, by omega, go _ _ _ ?_⟩⟩⟩
        · rw [show p = 0 by omega, BB_p0 (by omega)]; rfl
        · obtain ⟨p', rfl⟩ : ∃ p', p = p' + 1 := ⟨p - 1, by omega⟩
          obtain ⟨q', rfl⟩ : ∃ q', q = q' + 1 := ⟨q - 1, by omega⟩
          have e1 := hv (p' + 1) q' r (by omega) (by omega) (by omega) (by omega)
          rw [if_neg (by omega), show ((q' + 1 : Nat) : Int) - 1 = (q' : Int) by omega, e1]
          simp only [hT, zrI, zrL, zrR, Shp_wI, Shp_wJ, zR_wI, zR_wJ, zJ_wI, zI_wJ, zobj_wI, zobj_wJ, zarr_wI, zarr_wJ, zS_wI, zS_wJ, o_192, a_193, a_194, a_195, a_196, a_197, a_198, a_199, a_200, a_201, a_202, a_203, a_204, a_205, a_206, a_207, a_208, a_209, a_210, r_192_0, r_192_1, r_192_2, r_192_3, r_192_4, r_192_5, r_192_7, r_192_8, r_192_14, r_192_16, r_192_17, r_192_18, r_192_19, r_192_20, r_192_22, r_192_23, r_192_25, r_192_26, zrI, zrL, zrR, ne_eq, true_and, and_true, true_or, or_true, not_true_eq_false, not_false_eq_true, false_and, and_false, forall_const, true_implies, false_implies, implies_true, reduceCtorEq, Int.reduceEq, Int.reduceNe, Int.reduceLT, Int.reduceLE, Int.reduceNeg, Nat.reduceEqDiff, if_true, if_false, reduceIte, Int.reduceMul, Int.reduceAdd, Int.reduceSub]
          refine ⟨by omega, by omega, t_mInBox hT (by omega) (by omega) (by omega) (by omega) (by omega) ?_⟩
          simp only [hT, zrI, zrL, zrR, Shp_wI, Shp_wJ, zR_wI, zR_wJ, zJ_wI, zI_wJ, zobj_wI, zobj_wJ, zarr_wI, zarr_wJ, zS_wI, zS_wJ, o_192, a_193, a_194, a_195, a_196, a_197, a_198, a_199, a_200, a_201, a_202, a_203, a_204, a_205, a_206, a_207, a_208, a_209, a_210, r_192_0, r_192_1, r_192_2, r_192_3, r_192_4, r_192_5, r_192_7, r_192_8, r_192_14, r_192_16, r_192_17, r_192_18, r_192_19, r_192_20, r_192_22, r_192_23, r_192_25, r_192_26, zrI, zrL, zrR, ne_eq, true_and, and_true, true_or, or_true, not_true_eq_false, not_false_eq_true, false_and, and_false, forall_const, true_implies, false_implies, implies_true, reduceCtorEq, Int.reduceEq, Int.reduceNe, Int.reduceLT, Int.reduceLE, Int.reduceNeg, Nat.reduceEqDiff, if_true, if_false, reduceIte, Int.reduceMul, Int.reduceAdd, Int.reduceSub]
          refine ⟨by omega, by omega, by omega, by omega, by omega, by omega, go _ _ _ ?_⟩
          rw [BB_rec (by omega), Int64.ofNat_add]
          by_cases c4 : q' + 1 ≤ r
          · have e2 := hv p' (q' + 1) (r - (q' + 1)) (by omega) (by omega) (by omega) (by omega)
            rw [if_neg (by omega), if_pos c4, show ((p' + 1 : Nat) : Int) - 1 = (p' : Int) by omega, show (r : Int) - ((q' + 1 : Nat) : Int) = ((r - (q' + 1) : Nat) : Int) by omega, e2]
          · rw [if_pos (by omega), if_neg c4]; rfl
        · rw [show q = 0 by omega, BB_q0 (by omega)]; rfl
        · rw [show r = 0 by omega, BB_n0]; rfl
    have l2 : ∀ (p : Nat), p ≤ 60 → (∀ (τ : ZM) (u2 u3 u4 u5 : PV), (∀ p' q' r' : Nat, p' ≤ 60 → q' ≤ 60 → r' ≤ 60 → 61 * (61 * p' + q') + r' < 61 * (61 * (p + 1)) → zJ τ 201 (61 * (61 * (p' : Int) + (q' : Int)) + (r' : Int)) = Int64.ofNat (BB p' q' r')) → Fz (fun a j => a = 201 ∨ (a = 192 ∧ j = 15)) σ τ → WP m_Mod_makeBox 15 [zr 192, zi ((p : Int) + 1), u2, u3, u4, u5] [] τ (0, 0) Q) →
        ∀ (m q : Nat) (τ : ZM) (u3 u4 u5 : PV), q + m = 61 → (∀ p' q' r' : Nat, p' ≤ 60 → q' ≤ 60 → r' ≤ 60 → 61 * (61 * p' + q') + r' < 61 * (61 * p + q) → zJ τ 201 (61 * (61 * (p' : Int) + (q' : Int)) + (r' : Int)) = Int64.ofNat (BB p' q' r')) → Fz (fun a j => a = 201 ∨ (a = 192 ∧ j = 15)) σ τ → WP m_Mod_makeBox 23 [zr 192, zi (p : Int), zi (q : Int), u3, u4, u5] [] τ (0, 0) Q := by
      intro p p6 next m
      induction m with
      | zero =>
        intro q τ u3 u4 u5 hm hv f
        exact r_Mod_makeBox_23 ⟨fun _ => ⟨by omega, next τ _ _ _ _ (fun p' q' r' a b c d => hv p' q' r' a b c (by omega)) f⟩, fun c => by omega⟩
      | succ m ih =>
        intro q τ u3 u4 u5 hm hv f
        refine r_Mod_makeBox_23 ⟨fun c => by omega, fun _ => ?_⟩
        exact l3 p q p6 (by omega) (fun τ' a1 a2 a3 h1 h2 => by
          have := ih (q + 1) τ' a1 a2 a3 (by omega) h1 h2
          rw [Int.natCast_succ] at this
          exact this) 61 0 τ _ _ (by omega) (fun p' q' r' a b c d => hv p' q' r' a b c (by omega)) f
    have l1 : ∀ (m p : Nat) (τ : ZM) (u2 u3 u4 u5 : PV), p + m = 61 → (∀ p' q' r' : Nat, p' ≤ 60 → q' ≤ 60 → r' ≤ 60 → 61 * (61 * p' + q') + r' < 61 * (61 * p) → zJ τ 201 (61 * (61 * (p' : Int) + (q' : Int)) + (r' : Int)) = Int64.ofNat (BB p' q' r')) → Fz (fun a j => a = 201 ∨ (a = 192 ∧ j = 15)) σ τ → WP m_Mod_makeBox 15 [zr 192, zi (p : Int), u2, u3, u4, u5] [] τ (0, 0) Q := by
      intro m
      induction m with
      | zero =>
        intro p τ u2 u3 u4 u5 hm hv f
        exact r_Mod_makeBox_15 ⟨fun _ => k τ (fun p' q' r' a b c => hv p' q' r' a b c (by omega)) f, fun c => by omega⟩
      | succ m ih =>
        intro p τ u2 u3 u4 u5 hm hv f
        refine r_Mod_makeBox_15 ⟨fun c => by omega, fun _ => ?_⟩
        exact l2 p (by omega) (fun τ' a1 a2 a3 a4 h1 h2 => by
          have := ih (p + 1) τ' a1 a2 a3 a4 (by omega) h1 h2
          rw [Int.natCast_succ] at this
          exact this) 61 0 τ _ _ _ (by omega) (fun p' q' r' a b c d => hv p' q' r' a b c (by omega)) f
    exact l1 61 0 _ _ _ _ _ (by omega) (fun p' q' r' a b c d => by omega) (Fz.wI (Or.inr ⟨rfl, rfl⟩))
  · rcases hB with e | e
    · exact absurd e c
    · exact k σ e Fz.rf
/-! OWN by sums with 1 + the power -/
def plF : Nat → Nat → SQ → SQ
  | 0, _, s => s
  | f + 1, v, s => if v ≤ 400 then plF f (v + 2) (plusX v s) else s
theorem plF_far {v : Nat} {s : SQ} (h : 400 < v) : ∀ f, plF f v s = s
  | 0 => rfl
  | f + 1 => by
    show (if v ≤ 400 then _ else s) = s
    rw [if_neg (by omega)]
theorem pw_one (k : Nat) (s : SQ) : pwX k 1 s = mulX k s := rfl
theorem pw_neg (k : Nat) (s : SQ) : pwX k (-1) s = divX k s := rfl
theorem facs_div {v : Nat} (hv : 1 ≤ v) : ∀ (f k : Nat) (t : SQ), facs 4 1 f k (divX v t) = divX v (facs 4 1 f k t)
  | 0, _, _ => rfl
  | f + 1, k, t => by
    show (if k ≤ 400 then facs 4 1 f (k + 4) (pwX k 1 (divX v t)) else divX v t) = divX v (if k ≤ 400 then facs 4 1 f (k + 4) (pwX k 1 t) else t)
    split
    · rw [pw_one, pw_one, mul_divX hv, facs_div hv f]
    · rfl
theorem own_eq : ∀ (f v : Nat) (s : SQ), 1 ≤ v → Lk (plF f v s) (facs 2 (-1) f v (facs 4 1 f (2 * v) s))
  | 0, _, _, _ => Lk.rf
  | f + 1, v, s, hv => by
    show Lk (if v ≤ 400 then plF f (v + 2) (plusX v s) else s) (if v ≤ 400 then facs 2 (-1) f (v + 2) (pwX v (-1) (if 2 * v ≤ 400 then facs 4 1 f (2 * v + 4) (pwX (2 * v) 1 s) else s)) else (if 2 * v ≤ 400 then facs 4 1 f (2 * v + 4) (pwX (2 * v) 1 s) else s))
    by_cases c : v ≤ 400
    · rw [if_pos c, if_pos c]
      refine Lk.tr (own_eq f (v + 2) _ (by omega)) (Lk_facs f (v + 2) (by omega) ?_)
      rw [plus_eq hv, facs_div hv, pw_neg, pw_one]
      refine Lk.div hv ?_
      by_cases c2 : 2 * v ≤ 400
      · rw [if_pos c2]
        exact Lk.rf
      · rw [if_neg c2, facs_far (by omega)]
        intro n hn
        unfold mulX shS
        rw [if_neg (by omega), Int64.sub_zero]
    · rw [if_neg c, if_neg c, if_neg (by omega)]
      exact Lk.rf
