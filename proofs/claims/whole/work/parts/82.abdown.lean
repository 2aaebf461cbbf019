/-! Abacus, of the class: beadsOn, emptyRunner, pushDown, dropOne -/
theorem t_beadsOn {Q : ZQ} {σ : ZM} {t r : Nat} {B : BF} (hS : Shp σ) (a : AbI σ t B) (t0 : 1 ≤ t) (t1 : t ≤ 12) (hr : r < t) (q : Q (zi (rcN B t r : Int)) σ) : WP m_Abacus_beadsOn 0 [zr 152, zi (r : Int), zu, zu] [] σ (0, 0) Q := by
  have hpl := fun i => plcN_iff (T := 812) (t := t) (r := r) (i := i) t0 (by omega)
  have hrc := rcN_eq (T := 812) (t := t) (r := r) t0 (by omega) (by omega) a.2.2
  have et := a.1
  have emx : max 1 (t : Int) = (t : Int) := by omega
  have k4 : ∀ (g i : Nat) (u1 : PV), i + g = plcN 812 t r → WP m_Abacus_beadsOn 4 [zr 152, u1, zi (cB (runB B t r) i : Int), zi ((r : Int) + ((t * i : Nat) : Int))] [] σ (0, 0) Q := by
    intro g
    induction g with
    | zero =>
      intro i u1 hi
      have hge : 812 ≤ r + t * i := by
        rcases Nat.lt_or_ge (r + t * i) 812 with z | z
        · have := (hpl i).mpr z; omega
        · exact z
      rw [show i = plcN 812 t r by omega] at *
      rw [hrc]
      exact r_Abacus_beadsOn_4 ⟨fun _ => q, fun c => by omega⟩
    | succ g ih =>
      intro i u1 hi
      have hb := (hpl i).mp (by omega)
      have hc := cB_le (runB B t r) i
      have hil := plcN_le (T := 812) (t := t) (r := r) t0 (by omega)
      have ec : cB (runB B t r) (i + 1) = cB (runB B t r) i + (if runB B t r i then 1 else 0) := rfl
      have ihi := ih (i + 1) (zkill u1) (by omega)
      rw [ec, show (r : Int) + ((t * (i + 1) : Nat) : Int) = (r : Int) + ((t * i : Nat) : Int) + (t : Int) by rw [Nat.mul_succ]; omega] at ihi
      refine r_Abacus_beadsOn_4 ?_
      simp only [hS, a.at' hb, et, zrI, zrL, zrR, Shp_wI, Shp_wJ, zR_wI, zR_wJ, zJ_wI, zI_wJ, zobj_wI, zobj_wJ, zarr_wI, zarr_wJ, zS_wI, zS_wJ, o_2, a_3, a_4, a_5, o_10, a_11, a_12, o_137, o_138, a_139, o_140, a_141, o_142, a_143, o_146, a_147, a_148, a_149, o_152, a_153, o_154, a_157, o_158, a_159, r_2_0, r_2_1, r_2_2, r_2_3, r_2_4, r_2_5, r_2_6, r_2_7, r_2_8, r_2_9, r_2_10, r_10_0, r_10_1, r_137_0, r_137_1, r_137_2, r_138_0, r_140_0, r_142_0, r_146_0, r_146_1, r_146_2, r_146_3, r_152_0, r_154_0, r_154_1, r_158_0, zrI, zrL, zrR, ne_eq, true_and, and_true, true_or, or_true, not_true_eq_false, not_false_eq_true, false_and, and_false, forall_const, true_implies, false_implies, implies_true, reduceCtorEq, Int.reduceEq, Int.reduceNe, Int.reduceLT, Int.reduceLE, Int.reduceNeg, Nat.reduceEqDiff, if_true, if_false, reduceIte, Int.reduceMul, Int.reduceAdd, Int.reduceSub]
      by_cases hbi : runB B t r i = true
      · rw [if_pos hbi] at ihi
        rw [if_pos hbi]
        simp only [zrI, zrL, zrR, ne_eq, true_and, and_true, true_or, or_true, not_true_eq_false, not_false_eq_true, false_and, and_false, forall_const, true_implies, false_implies, implies_true, reduceCtorEq, Int.reduceEq, Int.reduceNe, Int.reduceLT, Int.reduceLE, Int.reduceNeg, Nat.reduceEqDiff, if_true, if_false, reduceIte, Int.reduceMul, Int.reduceAdd, Int.reduceSub]
        refine ⟨fun c => by omega, fun _ => ⟨by omega, by omega, t_max ?_⟩⟩
        rw [emx]
        exact ⟨by omega, ihi⟩
      · rw [if_neg hbi] at ihi
        rw [if_neg hbi]
        simp only [zrI, zrL, zrR, ne_eq, true_and, and_true, true_or, or_true, not_true_eq_false, not_false_eq_true, false_and, and_false, forall_const, true_implies, false_implies, implies_true, reduceCtorEq, Int.reduceEq, Int.reduceNe, Int.reduceLT, Int.reduceLE, Int.reduceNeg, Nat.reduceEqDiff, if_true, if_false, reduceIte, Int.reduceMul, Int.reduceAdd, Int.reduceSub]
        refine ⟨fun c => by omega, fun _ => ⟨by omega, by omega, t_max ?_⟩⟩
        rw [emx]
        exact ⟨by omega, ihi⟩
  refine r_Abacus_beadsOn_0 ?_
  have := k4 (plcN 812 t r) 0 (zi (r : Int)) (by omega)
  rw [show (r : Int) + ((t * 0 : Nat) : Int) = (r : Int) by simp] at this
  exact this
theorem AbI.off {σ : ZM} {t p : Nat} {B : BF} (a : AbI σ t B) (hp : p < 812) : AbI (wI σ 153 (p : Int) 0) t (upB B p false) := by
  refine ⟨?_, fun x hx => ?_, fun x hx => ?_⟩
  · rw [zI_wI, if_neg (by omega)]; exact a.1
  · rw [zI_wI]
    unfold upB
    by_cases e : x = p
    · rw [if_pos ⟨rfl, by omega⟩, if_pos e]
      rfl
    · rw [if_neg (by omega), if_neg e]
      exact a.2.1 x hx
  · unfold upB
    rw [if_neg (by omega)]
    exact a.2.2 x hx
theorem AbI.on {σ : ZM} {t p : Nat} {B : BF} (a : AbI σ t B) (hp : p < 812) : AbI (wI σ 153 (p : Int) 1) t (upB B p true) := by
  refine ⟨?_, fun x hx => ?_, fun x hx => ?_⟩
  · rw [zI_wI, if_neg (by omega)]; exact a.1
  · rw [zI_wI]
    unfold upB
    by_cases e : x = p
    · rw [if_pos ⟨rfl, by omega⟩, if_pos e]
      rfl
    · rw [if_neg (by omega), if_neg e]
      exact a.2.1 x hx
  · unfold upB
    rw [if_neg (by omega)]
    exact a.2.2 x hx
theorem dmi {t r i x : Nat} (hr : r < t) : x = r + t * i ↔ x % t = r ∧ x / t = i := by
  constructor
  · intro e
    rw [e]
    exact dm hr
  · intro e
    have := Nat.div_add_mod x t
    rw [e.1, e.2] at this
    omega
/-- runner r with its first i places emptied -/
def emI (B : BF) (t r i : Nat) : BF := fun p => if p % t = r ∧ p / t < i then false else B p
def emB (B : BF) (t r : Nat) : BF := fun p => if p % t = r then false else B p
theorem emI_up {B : BF} {t r i : Nat} (hr : r < t) : upB (emI B t r i) (r + t * i) false = emI B t r (i + 1) := by
  funext x
  unfold upB emI
  by_cases e : x = r + t * i
  · have := (dmi hr).mp e
    rw [if_pos e, if_pos ⟨this.1, by omega⟩]
  · rw [if_neg e]
    have h2 : ¬ (x % t = r ∧ x / t = i) := fun w => e ((dmi hr).mpr w)
    by_cases c : x % t = r ∧ x / t < i
    · rw [if_pos c, if_pos ⟨c.1, by omega⟩]
    · rw [if_neg c, if_neg (fun w => by
        by_cases w2 : x / t = i
        · exact h2 ⟨w.1, w2⟩
        · exact c ⟨w.1, by omega⟩)]
theorem emI_end {B : BF} {T t r : Nat} (t0 : 1 ≤ t) (hr : r < t) (hT : t ≤ T) (hB : ∀ p, T ≤ p → B p = false) : emI B t r (plcN T t r) = emB B t r := by
  funext x
  unfold emI emB
  by_cases c : x % t = r
  · rw [if_pos c]
    by_cases c2 : x / t < plcN T t r
    · rw [if_pos ⟨c, c2⟩]
    · rw [if_neg (fun w => c2 w.2)]
      refine hB x ?_
      have e := (dmi (t := t) (r := r) (i := x / t) hr).mpr ⟨c, rfl⟩
      rcases Nat.lt_or_ge x T with z | z
      · rw [e] at z
        exact absurd ((plcN_iff t0 (by omega)).mpr z) c2
      · exact z
  · rw [if_neg c, if_neg (fun w => c w.1)]
theorem t_emptyRunner {Q : ZQ} {σ : ZM} {t r : Nat} {B : BF} (hS : Shp σ) (a : AbI σ t B) (t0 : 1 ≤ t) (t1 : t ≤ 12) (hr : r < t) (q : ∀ σ', AbI σ' t (emB B t r) → Fr (fun a => a = 153) σ σ' → Q zu σ') : WP m_Abacus_emptyRunner 0 [zr 152, zi (r : Int), zu] [] σ (0, 0) Q := by
  have hpl := fun i => plcN_iff (T := 812) (t := t) (r := r) (i := i) t0 (by omega)
  have emx : max 1 (t : Int) = (t : Int) := by omega
  have k2 : ∀ (g i : Nat) (u1 : PV) (τ : ZM), i + g = plcN 812 t r → AbI τ t (emI B t r i) → Fr (fun a => a = 153) σ τ → WP m_Abacus_emptyRunner 2 [zr 152, u1, zi ((r : Int) + ((t * i : Nat) : Int))] [] τ (0, 0) Q := by
    intro g
    induction g with
    | zero =>
      intro i u1 τ hi aT f
      have hge : 812 ≤ r + t * i := by
        rcases Nat.lt_or_ge (r + t * i) 812 with z | z
        · have := (hpl i).mpr z; omega
        · exact z
      rw [show i = plcN 812 t r by omega] at aT
      rw [emI_end (T := 812) t0 hr (by omega) a.2.2] at aT
      exact r_Abacus_emptyRunner_2 ⟨fun _ => q τ aT f, fun c => by omega⟩
    | succ g ih =>
      intro i u1 τ hi aT f
      have hT := f.shp hS
      have hb := (hpl i).mp (by omega)
      have aN := aT.off hb
      rw [emI_up hr, Int.natCast_add] at aN
      have ihi := ih (i + 1) (zkill u1) _ (by omega) aN (f.tr (Fr.wI rfl))
      rw [show (r : Int) + ((t * (i + 1) : Nat) : Int) = (r : Int) + ((t * i : Nat) : Int) + (t : Int) by rw [Nat.mul_succ]; omega] at ihi
      refine r_Abacus_emptyRunner_2 ?_
      simp only [hT, zrI, zrL, zrR, Shp_wI, Shp_wJ, zR_wI, zR_wJ, zJ_wI, zI_wJ, zobj_wI, zobj_wJ, zarr_wI, zarr_wJ, zS_wI, zS_wJ, o_2, a_3, a_4, a_5, o_10, a_11, a_12, o_137, o_138, a_139, o_140, a_141, o_142, a_143, o_146, a_147, a_148, a_149, o_152, a_153, o_154, a_157, o_158, a_159, r_2_0, r_2_1, r_2_2, r_2_3, r_2_4, r_2_5, r_2_6, r_2_7, r_2_8, r_2_9, r_2_10, r_10_0, r_10_1, r_137_0, r_137_1, r_137_2, r_138_0, r_140_0, r_142_0, r_146_0, r_146_1, r_146_2, r_146_3, r_152_0, r_154_0, r_154_1, r_158_0, zrI, zrL, zrR, ne_eq, true_and, and_true, true_or, or_true, not_true_eq_false, not_false_eq_true, false_and, and_false, forall_const, true_implies, false_implies, implies_true, reduceCtorEq, Int.reduceEq, Int.reduceNe, Int.reduceLT, Int.reduceLE, Int.reduceNeg, Nat.reduceEqDiff, if_true, if_false, reduceIte, Int.reduceMul, Int.reduceAdd, Int.reduceSub]
      rw [aN.1]
      refine ⟨fun c => by omega, fun _ => ⟨by omega, t_max ?_⟩⟩
      rw [emx]
      exact ⟨by omega, ihi⟩
  refine r_Abacus_emptyRunner_0 ?_
  have := k2 (plcN 812 t r) 0 (zi (r : Int)) σ (by omega) (by
    rw [show emI B t r 0 = B by funext x; unfold emI; rw [if_neg (fun w => absurd w.2 (Nat.not_lt_zero _))]]
    exact a) Fr.rf
  rw [show (r : Int) + ((t * 0 : Nat) : Int) = (r : Int) by simp] at this
  exact this
/-- the first k runners pushed down -/
def mxB (B : BF) (t k : Nat) : BF := fun p => if p % t < k then coB B t p else B p
def miB (B : BF) (t k j : Nat) : BF := fun p => if p % t < k then coB B t p else if p % t = k then decide (p / t < j) else B p
theorem mxB_rc {B : BF} {t k : Nat} (hk : k < t) : rcN (mxB B t k) t k = rcN B t k := by
  unfold rcN
  have : runB (mxB B t k) t k = runB B t k := by
    funext i
    show mxB B t k (k + t * i) = B (k + t * i)
    unfold mxB
    rw [if_neg (by rw [(dm (t := t) (r := k) (i := i) hk).1]; omega)]
  rw [this]
theorem mxB_em {B : BF} {t k : Nat} : emB (mxB B t k) t k = miB B t k 0 := by
  funext x
  unfold emB mxB miB
  by_cases c : x % t = k
  · rw [if_pos c, if_neg (by omega), if_pos c]
    simp
  · rw [if_neg c]
    by_cases c2 : x % t < k
    · rw [if_pos c2, if_pos c2]
    · rw [if_neg c2, if_neg c2, if_neg c]
theorem miB_up {B : BF} {t k j : Nat} (hk : k < t) : upB (miB B t k j) (k + t * j) true = miB B t k (j + 1) := by
  funext x
  unfold upB miB
  by_cases e : x = k + t * j
  · have := (dmi hk).mp e
    rw [if_pos e, if_neg (by omega), if_pos this.1, this.2]
    simp
  · rw [if_neg e]
    by_cases c : x % t < k
    · rw [if_pos c, if_pos c]
    · rw [if_neg c, if_neg c]
      by_cases c2 : x % t = k
      · rw [if_pos c2, if_pos c2]
        have h2 : x / t ≠ j := fun w => e ((dmi hk).mpr ⟨c2, w⟩)
        rw [decide_eq_decide]
        omega
      · rw [if_neg c2, if_neg c2]
theorem miB_end {B : BF} {t k : Nat} : miB B t k (rcN B t k) = mxB B t (k + 1) := by
  funext x
  unfold miB mxB
  by_cases c : x % t < k
  · rw [if_pos c, if_pos (by omega)]
  · rw [if_neg c]
    by_cases c2 : x % t = k
    · rw [if_pos c2, if_pos (by omega)]
      unfold coB
      rw [c2]
    · rw [if_neg c2, if_neg (by omega)]
theorem mxB_all {B : BF} {t : Nat} (t0 : 1 ≤ t) : mxB B t t = coB B t := by
  funext x
  unfold mxB
  rw [if_pos (Nat.mod_lt _ (by omega))]
theorem t_abpush {Q : ZQ} {σ : ZM} {t : Nat} {B : BF} (hS : Shp σ) (a : AbI σ t B) (t0 : 1 ≤ t) (t1 : t ≤ 12) (q : ∀ σ', AbI σ' t (coB B t) → Fr (fun a => a = 153) σ σ' → Q zu σ') : WP m_Abacus_pushDown 0 [zr 152, zu, zu, zu] [] σ (0, 0) Q := by
  have k2 : ∀ (m k : Nat) (τ : ZM) (u2 u3 : PV), k + m = t → AbI τ t (mxB B t k) → Fr (fun a => a = 153) σ τ → WP m_Abacus_pushDown 2 [zr 152, zi (k : Int), u2, u3] [] τ (0, 0) Q := by
    intro m
    induction m with
    | zero =>
      intro k τ u2 u3 hk aT f
      have et := aT.1
      rw [show k = t by omega] at aT
      rw [mxB_all t0] at aT
      have hT := f.shp hS
      refine r_Abacus_pushDown_2 ?_
      simp only [hT, et, zrI, zrL, zrR, Shp_wI, Shp_wJ, zR_wI, zR_wJ, zJ_wI, zI_wJ, zobj_wI, zobj_wJ, zarr_wI, zarr_wJ, zS_wI, zS_wJ, o_2, a_3, a_4, a_5, o_10, a_11, a_12, o_137, o_138, a_139, o_140, a_141, o_142, a_143, o_146, a_147, a_148, a_149, o_152, a_153, o_154, a_157, o_158, a_159, r_2_0, r_2_1, r_2_2, r_2_3, r_2_4, r_2_5, r_2_6, r_2_7, r_2_8, r_2_9, r_2_10, r_10_0, r_10_1, r_137_0, r_137_1, r_137_2, r_138_0, r_140_0, r_142_0, r_146_0, r_146_1, r_146_2, r_146_3, r_152_0, r_154_0, r_154_1, r_158_0, zrI, zrL, zrR, ne_eq, true_and, and_true, true_or, or_true, not_true_eq_false, not_false_eq_true, false_and, and_false, forall_const, true_implies, false_implies, implies_true, reduceCtorEq, Int.reduceEq, Int.reduceNe, Int.reduceLT, Int.reduceLE, Int.reduceNeg, Nat.reduceEqDiff, if_true, if_false, reduceIte, Int.reduceMul, Int.reduceAdd, Int.reduceSub]
      exact ⟨fun _ => q τ aT f, fun c => by omega⟩
    | succ m ih =>
      intro k τ u2 u3 hk aT f
      have hT := f.shp hS
      have et := aT.1
      have hrl := rcN_le (T := 812) (t := t) (r := k) t0 (by omega) (by omega) a.2.2
      have k23 : ∀ (g j : Nat) (υ : ZM), j + g = rcN B t k → AbI υ t (miB B t k j) → Fr (fun a => a = 153) σ υ → WP m_Abacus_pushDown 23 [zr 152, zi (k : Int), zi (rcN B t k : Int), zi (j : Int)] [] υ (0, 0) Q := by
        intro g
        induction g with
        | zero =>
          intro j υ hj aU f2
          rw [show j = rcN B t k by omega] at aU
          rw [miB_end] at aU
          have := ih (k + 1) υ (zi (rcN B t k : Int)) (zi (j : Int)) (by omega) aU f2
          rw [Int.natCast_succ] at this
          exact r_Abacus_pushDown_23 ⟨fun _ => ⟨by omega, this⟩, fun c => by omega⟩
        | succ g ihg =>
          intro j υ hj aU f2
          have hU := f2.shp hS
          have hjl : j < plcN 812 t k := by omega
          have hp8 := plcN_le (T := 812) (t := t) (r := k) t0 (by omega)
          have hb := (plcN_iff (T := 812) (t := t) (r := k) (i := j) t0 (by omega)).mp hjl
          have ej : (j : Int) * (t : Int) = ((t * j : Nat) : Int) := by rw [Int.natCast_mul, Int.mul_comm]
          refine r_Abacus_pushDown_23 ?_
          simp only [hU, aU.1, ej, zrI, zrL, zrR, Shp_wI, Shp_wJ, zR_wI, zR_wJ, zJ_wI, zI_wJ, zobj_wI, zobj_wJ, zarr_wI, zarr_wJ, zS_wI, zS_wJ, o_2, a_3, a_4, a_5, o_10, a_11, a_12, o_137, o_138, a_139, o_140, a_141, o_142, a_143, o_146, a_147, a_148, a_149, o_152, a_153, o_154, a_157, o_158, a_159, r_2_0, r_2_1, r_2_2, r_2_3, r_2_4, r_2_5, r_2_6, r_2_7, r_2_8, r_2_9, r_2_10, r_10_0, r_10_1, r_137_0, r_137_1, r_137_2, r_138_0, r_140_0, r_142_0, r_146_0, r_146_1, r_146_2, r_146_3, r_152_0, r_154_0, r_154_1, r_158_0, zrI, zrL, zrR, ne_eq, true_and, and_true, true_or, or_true, not_true_eq_false, not_false_eq_true, false_and, and_false, forall_const, true_implies, false_implies, implies_true, reduceCtorEq, Int.reduceEq, Int.reduceNe, Int.reduceLT, Int.reduceLE, Int.reduceNeg, Nat.reduceEqDiff, if_true, if_false, reduceIte, Int.reduceMul, Int.reduceAdd, Int.reduceSub]
          refine ⟨fun c => by omega, fun _ => ⟨by omega, by omega, ?_⟩⟩
          rw [show ((t * j : Nat) : Int) + (k : Int) = ((k + t * j : Nat) : Int) by omega]
          refine t_setBead hU aU hb (fun ω w1 w2 => ⟨by omega, ?_⟩)
          rw [miB_up (by omega)] at w1
          have := ihg (j + 1) ω (by omega) w1 (f2.tr w2)
          rw [Int.natCast_succ] at this
          exact this
      refine r_Abacus_pushDown_2 ?_
      simp only [hT, et, zrI, zrL, zrR, Shp_wI, Shp_wJ, zR_wI, zR_wJ, zJ_wI, zI_wJ, zobj_wI, zobj_wJ, zarr_wI, zarr_wJ, zS_wI, zS_wJ, o_2, a_3, a_4, a_5, o_10, a_11, a_12, o_137, o_138, a_139, o_140, a_141, o_142, a_143, o_146, a_147, a_148, a_149, o_152, a_153, o_154, a_157, o_158, a_159, r_2_0, r_2_1, r_2_2, r_2_3, r_2_4, r_2_5, r_2_6, r_2_7, r_2_8, r_2_9, r_2_10, r_10_0, r_10_1, r_137_0, r_137_1, r_137_2, r_138_0, r_140_0, r_142_0, r_146_0, r_146_1, r_146_2, r_146_3, r_152_0, r_154_0, r_154_1, r_158_0, zrI, zrL, zrR, ne_eq, true_and, and_true, true_or, or_true, not_true_eq_false, not_false_eq_true, false_and, and_false, forall_const, true_implies, false_implies, implies_true, reduceCtorEq, Int.reduceEq, Int.reduceNe, Int.reduceLT, Int.reduceLE, Int.reduceNeg, Nat.reduceEqDiff, if_true, if_false, reduceIte, Int.reduceMul, Int.reduceAdd, Int.reduceSub]
      refine ⟨fun c => by omega, fun _ => t_beadsOn hT aT t0 t1 (by omega) ?_⟩
      simp only [hT, zrI, zrL, zrR, Shp_wI, Shp_wJ, zR_wI, zR_wJ, zJ_wI, zI_wJ, zobj_wI, zobj_wJ, zarr_wI, zarr_wJ, zS_wI, zS_wJ, o_2, a_3, a_4, a_5, o_10, a_11, a_12, o_137, o_138, a_139, o_140, a_141, o_142, a_143, o_146, a_147, a_148, a_149, o_152, a_153, o_154, a_157, o_158, a_159, r_2_0, r_2_1, r_2_2, r_2_3, r_2_4, r_2_5, r_2_6, r_2_7, r_2_8, r_2_9, r_2_10, r_10_0, r_10_1, r_137_0, r_137_1, r_137_2, r_138_0, r_140_0, r_142_0, r_146_0, r_146_1, r_146_2, r_146_3, r_152_0, r_154_0, r_154_1, r_158_0, zrI, zrL, zrR, ne_eq, true_and, and_true, true_or, or_true, not_true_eq_false, not_false_eq_true, false_and, and_false, forall_const, true_implies, false_implies, implies_true, reduceCtorEq, Int.reduceEq, Int.reduceNe, Int.reduceLT, Int.reduceLE, Int.reduceNeg, Nat.reduceEqDiff, if_true, if_false, reduceIte, Int.reduceMul, Int.reduceAdd, Int.reduceSub]
      rw [mxB_rc (by omega)]
      refine t_emptyRunner (r := k) hT aT t0 t1 (by omega) (fun υ w1 w2 => ?_)
      rw [mxB_em] at w1
      exact k23 (rcN B t k) 0 υ (by omega) w1 (f.tr w2)
  refine r_Abacus_pushDown_0 ?_
  refine k2 t 0 σ zu zu (by omega) ?_ Fr.rf
  rw [show mxB B t 0 = B by funext x; unfold mxB; rw [if_neg (by omega)]]
  exact a
/-- no bead can be moved down -/
def NoB (B : BF) (t : Nat) : Prop := ∀ x, t ≤ x → ¬ (B x = true ∧ B (x - t) = false)
theorem t_dropOne {Q : ZQ} {σ : ZM} {t : Nat} {B : BF} (hS : Shp σ) (a : AbI σ t B) (t0 : 1 ≤ t) (t1 : t ≤ 12) (q0 : NoB B t → Q (zi 0) σ) (q1 : ∀ p, p < 812 → PkB B t p → ∀ σ', AbI σ' t (dnB B t p) → Fr (fun a => a = 153) σ σ' → Q (zi 1) σ') : WP m_Abacus_dropOne 0 [zr 152, zu] [] σ (0, 0) Q := by
  have et := a.1
  have k4 : ∀ (m : Nat) (x : Int), x + 1 = m → m ≤ 812 → (∀ y, m ≤ y → t ≤ y → ¬ (B y = true ∧ B (y - t) = false)) → WP m_Abacus_dropOne 4 [zr 152, zi x] [] σ (0, 0) Q := by
    intro m
    induction m with
    | zero =>
      intro x hx hm hN
      refine r_Abacus_dropOne_4 ?_
      simp only [hS, et, zrI, zrL, zrR, Shp_wI, Shp_wJ, zR_wI, zR_wJ, zJ_wI, zI_wJ, zobj_wI, zobj_wJ, zarr_wI, zarr_wJ, zS_wI, zS_wJ, o_2, a_3, a_4, a_5, o_10, a_11, a_12, o_137, o_138, a_139, o_140, a_141, o_142, a_143, o_146, a_147, a_148, a_149, o_152, a_153, o_154, a_157, o_158, a_159, r_2_0, r_2_1, r_2_2, r_2_3, r_2_4, r_2_5, r_2_6, r_2_7, r_2_8, r_2_9, r_2_10, r_10_0, r_10_1, r_137_0, r_137_1, r_137_2, r_138_0, r_140_0, r_142_0, r_146_0, r_146_1, r_146_2, r_146_3, r_152_0, r_154_0, r_154_1, r_158_0, zrI, zrL, zrR, ne_eq, true_and, and_true, true_or, or_true, not_true_eq_false, not_false_eq_true, false_and, and_false, forall_const, true_implies, false_implies, implies_true, reduceCtorEq, Int.reduceEq, Int.reduceNe, Int.reduceLT, Int.reduceLE, Int.reduceNeg, Nat.reduceEqDiff, if_true, if_false, reduceIte, Int.reduceMul, Int.reduceAdd, Int.reduceSub]
      exact ⟨fun _ => q0 (fun y hy => hN y (by omega) hy), fun c => by omega⟩
    | succ m ih =>
      intro x hx hm hN
      have ex : x = (m : Int) := by omega
      subst ex
      have v := a.2.1 m (by omega)
      refine r_Abacus_dropOne_4 ?_
      simp only [hS, et, v, zrI, zrL, zrR, Shp_wI, Shp_wJ, zR_wI, zR_wJ, zJ_wI, zI_wJ, zobj_wI, zobj_wJ, zarr_wI, zarr_wJ, zS_wI, zS_wJ, o_2, a_3, a_4, a_5, o_10, a_11, a_12, o_137, o_138, a_139, o_140, a_141, o_142, a_143, o_146, a_147, a_148, a_149, o_152, a_153, o_154, a_157, o_158, a_159, r_2_0, r_2_1, r_2_2, r_2_3, r_2_4, r_2_5, r_2_6, r_2_7, r_2_8, r_2_9, r_2_10, r_10_0, r_10_1, r_137_0, r_137_1, r_137_2, r_138_0, r_140_0, r_142_0, r_146_0, r_146_1, r_146_2, r_146_3, r_152_0, r_154_0, r_154_1, r_158_0, zrI, zrL, zrR, ne_eq, true_and, and_true, true_or, or_true, not_true_eq_false, not_false_eq_true, false_and, and_false, forall_const, true_implies, false_implies, implies_true, reduceCtorEq, Int.reduceEq, Int.reduceNe, Int.reduceLT, Int.reduceLE, Int.reduceNeg, Nat.reduceEqDiff, if_true, if_false, reduceIte, Int.reduceMul, Int.reduceAdd, Int.reduceSub]
      refine ⟨fun c => q0 (fun y hy => hN y (by omega) hy), fun c => ?_⟩
      have e2 : (m : Int) - (t : Int) = ((m - t : Nat) : Int) := by omega
      have v2 := a.2.1 (m - t) (by omega)
      by_cases hb : B m = true
      · by_cases hb2 : B (m - t) = true
        · simp only [e2, v2, if_pos hb, if_pos hb2, zrI, zrL, zrR, ne_eq, true_and, and_true, true_or, or_true, not_true_eq_false, not_false_eq_true, false_and, and_false, forall_const, true_implies, false_implies, implies_true, reduceCtorEq, Int.reduceEq, Int.reduceNe, Int.reduceLT, Int.reduceLE, Int.reduceNeg, Nat.reduceEqDiff, if_true, if_false, reduceIte, Int.reduceMul, Int.reduceAdd, Int.reduceSub]
          refine ⟨by omega, by omega, by omega, by omega, ih _ (by omega) (by omega) (fun y hy ht w => ?_)⟩
          by_cases e : y = m
          · rw [e, hb2] at w
            exact absurd w.2 (by simp)
          · exact hN y (by omega) ht w
        · have hb2' : B (m - t) = false := by simpa using hb2
          have aN := (a.off (p := m) (by omega)).on (p := m - t) (by omega)
          have e1 : zI (wI σ 153 (m : Int) 0) 152 1 = (t : Int) := (a.off (p := m) (by omega)).1
          simp only [e2, v2, if_pos hb, if_neg hb2, e1, zrI, zrL, zrR, ne_eq, true_and, and_true, true_or, or_true, not_true_eq_false, not_false_eq_true, false_and, and_false, forall_const, true_implies, false_implies, implies_true, reduceCtorEq, Int.reduceEq, Int.reduceNe, Int.reduceLT, Int.reduceLE, Int.reduceNeg, Nat.reduceEqDiff, if_true, if_false, reduceIte, Int.reduceMul, Int.reduceAdd, Int.reduceSub]
          refine ⟨by omega, by omega, by omega, by omega, by omega, by omega, q1 m (by omega) ⟨by omega, hb, hb2', fun y hy w => ?_⟩ _ aN (Fr.tr (P := fun a => a = 153) (Fr.wI rfl) (Fr.wI rfl))⟩
          exact hN y (by omega) (by omega) w
      · simp only [if_neg hb, zrI, zrL, zrR, ne_eq, true_and, and_true, true_or, or_true, not_true_eq_false, not_false_eq_true, false_and, and_false, forall_const, true_implies, false_implies, implies_true, reduceCtorEq, Int.reduceEq, Int.reduceNe, Int.reduceLT, Int.reduceLE, Int.reduceNeg, Nat.reduceEqDiff, if_true, if_false, reduceIte, Int.reduceMul, Int.reduceAdd, Int.reduceSub]
        refine ⟨by omega, by omega, ih _ (by omega) (by omega) (fun y hy ht w => ?_)⟩
        by_cases e : y = m
        · rw [e] at w
          exact hb w.1
        · exact hN y (by omega) ht w
  refine r_Abacus_dropOne_0 (k4 812 811 (by omega) (by omega) (fun y hy _ w => ?_))
  rw [a.2.2 y hy] at w
  exact absurd w.1 (by simp)
