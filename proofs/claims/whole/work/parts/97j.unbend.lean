/-! lead 3, back: unbend -/
def alS : List Int → Int
  | [] => 0
  | a :: t => a - alS t
def ubS (l : List Int) (i : Int) : Int := alS (l.drop i.toNat)
theorem alS_drop : ∀ (l : List Int) (n : Nat), alS (l.drop n) = ga l (n : Int) - alS (l.drop (n + 1))
  | [], n => by
    rw [List.drop_nil, List.drop_nil, ga_out (by simp)]
    rfl
  | a :: t, 0 => rfl
  | a :: t, n + 1 => by
    rw [List.drop_succ_cons, List.drop_succ_cons, alS_drop t n, show ((n + 1 : Nat) : Int) = (n : Int) + 1 by omega, ga_cons (by omega)]
theorem ubS_step {l : List Int} {i : Int} (i0 : 0 ≤ i) : ubS l i = ga l i - ubS l (i + 1) := by
  have := alS_drop l i.toNat
  unfold ubS
  rw [show (i + 1).toNat = i.toNat + 1 by omega, this, show ((i.toNat : Nat) : Int) = i by omega]
theorem ubS_out {l : List Int} {i : Int} (h : (l.length : Int) ≤ i) : ubS l i = 0 := by
  unfold ubS
  rw [List.drop_eq_nil_of_le (by omega)]
  rfl
theorem ubS_bd {l : List Int} (hp : Pt l) (hu : unL l) : ∀ (e : Nat) (i : Int), 0 ≤ i → i + e = (l.length : Int) → 0 ≤ ubS l i ∧ ubS l i ≤ ga l i ∧ (i < (l.length : Int) → 1 ≤ ubS l i)
  | 0, i, i0, h => by
    rw [ubS_out (by omega), ga_out (by omega)]
    exact ⟨by omega, by omega, fun w => by omega⟩
  | e + 1, i, i0, h => by
    have ih := ubS_bd hp hu e (i + 1) (by omega) (by omega)
    have h1 := ubS_step (l := l) i0
    have h2 := hu i i0 (by omega)
    exact ⟨by omega, by omega, fun _ => by omega⟩
theorem ubS_b {l : List Int} (hp : Pt l) (hu : unL l) {i : Int} (i0 : 0 ≤ i) : 0 ≤ ubS l i ∧ ubS l i ≤ ga l i ∧ (i < (l.length : Int) → 1 ≤ ubS l i) := by
  by_cases c : i < (l.length : Int)
  · exact ubS_bd hp hu (l.length - i.toNat) i i0 (by omega)
  · rw [ubS_out (by omega), ga_out (by omega)]
    exact ⟨by omega, by omega, fun w => by omega⟩
def uA (l : List Int) (k : Int) : Int := ubS l (2 * k + 1)
def uL (l : List Int) (k : Int) : Int := ubS l (2 * k) - 1
def uD (l : List Int) : Nat := (l.length + 1) / 2
theorem ubS_sum {l : List Int} : ∀ d : Nat, ubS l 0 = sm (fun j => ga l (2 * j) - ga l (2 * j + 1)) d + ubS l (2 * (d : Int))
  | 0 => by
    show ubS l 0 = 0 + ubS l (2 * ((0 : Nat) : Int))
    rw [show 2 * ((0 : Nat) : Int) = 0 by omega]
    omega
  | d + 1 => by
    show ubS l 0 = sm (fun j => ga l (2 * j) - ga l (2 * j + 1)) d + (ga l (2 * (d : Int)) - ga l (2 * (d : Int) + 1)) + ubS l (2 * ((d + 1 : Nat) : Int))
    have h1 := ubS_sum (l := l) d
    have h2 := ubS_step (l := l) (i := 2 * (d : Int)) (by omega)
    have h3 := ubS_step (l := l) (i := 2 * (d : Int) + 1) (by omega)
    rw [show 2 * ((d + 1 : Nat) : Int) = 2 * (d : Int) + 1 + 1 by omega]
    omega
theorem uS_sum {l : List Int} (hp : Pt l) : sm (fun j => ga l (2 * j)) (uD l) + sm (fun j => ga l (2 * j + 1)) (uD l) = l.sum := by
  have h1 := sm_eo (F := ga l) (2 * uD l)
  rw [show (2 * uD l + 1) / 2 = uD l by omega, show 2 * uD l / 2 = uD l by omega] at h1
  have h2 := sm_ga (l := l) (2 * uD l)
  rw [List.take_of_length_le (by unfold uD; omega)] at h2
  have h2' : sm (ga l) (2 * uD l) = l.sum := h2
  omega
theorem uS_T {l : List Int} : sm (fun k => uA l k + uL l k + 1) (uD l) = sm (fun j => ga l (2 * j)) (uD l) := by
  refine sm_ext _ (fun k k0 k1 => ?_)
  have := ubS_step (l := l) (i := 2 * k) (by omega)
  show uA l k + uL l k + 1 = ga l (2 * k)
  unfold uA uL
  omega
theorem u_DrP {l : List Int} (hp : Pt l) (hu : unL l) : DrP (uA l) (uL l) (uD l) := by
  have hd : (2 * uD l = l.length + 1 ∨ 2 * uD l = l.length) := by unfold uD; omega
  refine ⟨fun k k0 k1 => ?_, fun k k0 k1 => ?_, ?_⟩
  · have h1 := ubS_b hp hu (i := 2 * k + 1) (by omega)
    have h2 := ubS_b hp hu (i := 2 * k) (by omega)
    have h3 := h2.2.2 (by omega)
    unfold uA uL
    omega
  · have a1 := ubS_step (l := l) (i := 2 * k) (by omega)
    have a2 := ubS_step (l := l) (i := 2 * k + 1) (by omega)
    have a3 := ubS_step (l := l) (i := 2 * k + 1 + 1) (by omega)
    have h1 := hu (2 * k) (by omega) (by omega)
    have h2 := hu (2 * k + 1) (by omega) (by omega)
    unfold uA uL
    rw [show 2 * (k + 1) + 1 = 2 * k + 1 + 1 + 1 by omega, show 2 * (k + 1) = 2 * k + 1 + 1 by omega]
    omega
  · have h1 := uS_sum hp
    have h2 := sm_ge0 (f := fun j => ga l (2 * j + 1)) (uD l) (fun i _ _ => (hp.rng _).1)
    have h4 := hp.2.1
    rw [uS_T]
    omega
def ubR (l : List Int) (i : Int) : Int := 2 * drR (uA l) (uL l) (uD l) i - 1
def ubL (l : List Int) : List Int := tbl (ubR l) (drH (uL l) (uD l))
theorem sm_dbl {F : Int → Int} : ∀ n : Nat, sm (fun i => 2 * F i - 1) n = 2 * sm F n - (n : Int)
  | 0 => rfl
  | n + 1 => by
    show sm (fun i => 2 * F i - 1) n + (2 * F (n : Int) - 1) = 2 * (sm F n + F (n : Int)) - _
    rw [sm_dbl n]
    omega
theorem ub_H {l : List Int} (hp : Pt l) (hu : unL l) : (drH (uL l) (uD l) : Int) = ubS l 0 := by
  have hh := (u_DrP hp hu).hgt
  by_cases c : uD l = 0
  · have e : l.length = 0 := by unfold uD at c; omega
    rw [ubS_out (by omega)]
    unfold drH
    rw [if_pos c]
    rfl
  · rw [hh.2 (by omega)]
    unfold uL
    rw [show (2 : Int) * 0 = 0 by rfl]
    omega
theorem ubL_Pt {l : List Int} (hp : Pt l) (hu : unL l) : Pt (ubL l) := by
  have hD := u_DrP hp hu
  refine Pt_tbl _ (fun i i0 i1 => ?_) ?_ (fun i i0 i1 => ?_)
  · have := hD.pos i0 i1
    unfold ubR
    omega
  · have e : sm (ubR l) (drH (uL l) (uD l)) = 2 * sm (drR (uA l) (uL l) (uD l)) (drH (uL l) (uD l)) - (drH (uL l) (uD l) : Int) := sm_dbl _
    rw [e, hD.sum, uS_T, ub_H hp hu]
    have h1 := uS_sum hp
    have h2 := ubS_sum (l := l) (uD l)
    rw [sm_minus, ubS_out (l := l) (i := 2 * (uD l : Int)) (by unfold uD; omega)] at h2
    have h4 := hp.2.1
    omega
  · have := hD.down (row := i) i0
    unfold ubR
    omega
theorem t_unbend {Q : ZQ} {σ : ZM} {g h : Nat} {l : List Int} (hS : Shp σ) (hg : isS g) (hh : isS h) (hi : isS 150) (hgn : g ≠ 148 ∧ g ≠ 149 ∧ g + 1 ≠ 148 ∧ g + 1 ≠ 149) (hne : h ≠ 148 ∧ h ≠ 149 ∧ h + 1 ≠ 148 ∧ h + 1 ≠ 149) (hne5 : h ≠ 150 ∧ h ≠ 151 ∧ h + 1 ≠ 150) (hl : Lz σ g l) (hp : Pt l) (hu : unL l) (q : ∀ σ', Lz σ' h (ubL l) → Fr (fun a => (148 ≤ a ∧ a ≤ 151) ∨ two h a) σ σ' → Q zu σ') : WP m_Leads_unbend 0 [zr 146, zr g, zr h, zu, zu, zu] [] σ (0, 0) Q := by
  have hlen := hp.len
  have h4 := hp.2.1
  have hl1 := hl.1
  have hD := u_DrP hp hu
  have hd : (2 * uD l = l.length + 1 ∨ 2 * uD l = l.length) := by unfold uD; omega
  have hH4 : drH (uL l) (uD l) ≤ 400 := by
    have := hD.isPt.len
    unfold drL at this
    rw [tbl_len] at this
    omega
  have k93 : ∀ (e j : Nat) (u1 u3 u4 : PV) (τ : ZM), j + e = drH (uL l) (uD l) → Lz τ 150 (drL (uA l) (uL l) (uD l)) → Lz τ h (tbl (ubR l) j) → Fr (fun a => (148 ≤ a ∧ a ≤ 151) ∨ two h a) σ τ → WP m_Leads_unbend 93 [zr 146, u1, zr h, u3, u4, zi (j : Int)] [] τ (0, 0) Q := by
    intro e
    induction e with
    | zero =>
      intro j u1 u3 u4 τ hj hA hT f1
      have hTs := f1.shp hS
      have hA1 := hA.1
      rw [show (drL (uA l) (uL l) (uD l)).length = drH (uL l) (uD l) from tbl_len] at hA1
      rw [show j = drH (uL l) (uD l) by omega] at hT
      refine r_Leads_unbend_93 ?_
      simp only [hTs, (hTs.sumO hi).1, hA1, zrI, zrL, zrR, Shp_wI, Shp_wJ, zR_wI, zR_wJ, zJ_wI, zI_wJ, zobj_wI, zobj_wJ, zarr_wI, zarr_wJ, zS_wI, zS_wJ, o_2, a_3, a_4, a_5, o_10, a_11, a_12, o_137, o_138, a_139, o_140, a_141, o_142, a_143, o_146, a_147, a_148, a_149, o_152, a_153, o_154, a_157, o_158, a_159, r_2_0, r_2_1, r_2_2, r_2_3, r_2_4, r_2_5, r_2_6, r_2_7, r_2_8, r_2_9, r_2_10, r_10_0, r_10_1, r_137_0, r_137_1, r_137_2, r_138_0, r_140_0, r_142_0, r_146_0, r_146_1, r_146_2, r_146_3, r_152_0, r_154_0, r_154_1, r_158_0, zrI, zrL, zrR, ne_eq, true_and, and_true, true_or, or_true, not_true_eq_false, not_false_eq_true, false_and, and_false, forall_const, true_implies, false_implies, implies_true, reduceCtorEq, Int.reduceEq, Int.reduceNe, Int.reduceLT, Int.reduceLE, Int.reduceNeg, Nat.reduceEqDiff, if_true, if_false, reduceIte, Int.reduceMul, Int.reduceAdd, Int.reduceSub]
      exact ⟨fun _ => q τ hT f1, fun w => by omega⟩
    | succ e ih =>
      intro j u1 u3 u4 τ hj hA hT f1
      have hTs := f1.shp hS
      have hA1 := hA.1
      rw [show (drL (uA l) (uL l) (uD l)).length = drH (uL l) (uD l) from tbl_len] at hA1
      have ev : ga (drL (uA l) (uL l) (uD l)) (j : Int) = drR (uA l) (uL l) (uD l) (j : Int) := ga_tbl (by omega) (by omega)
      have hrg := hD.isPt.rng (j : Int)
      obtain ⟨r1, r2, r3⟩ := Pt.room (f := ubR l) (n := drH (uL l) (uD l)) (j := j) (ubL_Pt hp hu) (by omega)
      have er : ubR l (j : Int) = 2 * drR (uA l) (uL l) (uD l) (j : Int) - 1 := rfl
      rw [ev] at hrg
      refine r_Leads_unbend_93 ?_
      simp only [hTs, (hTs.sumO hi).1, hA1, zrI, zrL, zrR, Shp_wI, Shp_wJ, zR_wI, zR_wJ, zJ_wI, zI_wJ, zobj_wI, zobj_wJ, zarr_wI, zarr_wJ, zS_wI, zS_wJ, o_2, a_3, a_4, a_5, o_10, a_11, a_12, o_137, o_138, a_139, o_140, a_141, o_142, a_143, o_146, a_147, a_148, a_149, o_152, a_153, o_154, a_157, o_158, a_159, r_2_0, r_2_1, r_2_2, r_2_3, r_2_4, r_2_5, r_2_6, r_2_7, r_2_8, r_2_9, r_2_10, r_10_0, r_10_1, r_137_0, r_137_1, r_137_2, r_138_0, r_140_0, r_142_0, r_146_0, r_146_1, r_146_2, r_146_3, r_152_0, r_154_0, r_154_1, r_158_0, zrI, zrL, zrR, ne_eq, true_and, and_true, true_or, or_true, not_true_eq_false, not_false_eq_true, false_and, and_false, forall_const, true_implies, false_implies, implies_true, reduceCtorEq, Int.reduceEq, Int.reduceNe, Int.reduceLT, Int.reduceLE, Int.reduceNeg, Nat.reduceEqDiff, if_true, if_false, reduceIte, Int.reduceMul, Int.reduceAdd, Int.reduceSub]
      refine ⟨fun w => by omega, fun _ => t_Sum_at (hTs.sumO hi) hA ?_⟩
      rw [ev]
      simp only [(hTs.sumO hh).1, zrI, zrL, zrR, ne_eq, true_and, and_true, true_or, or_true, not_true_eq_false, not_false_eq_true, false_and, and_false, forall_const, true_implies, false_implies, implies_true, reduceCtorEq, Int.reduceEq, Int.reduceNe, Int.reduceLT, Int.reduceLE, Int.reduceNeg, Nat.reduceEqDiff, if_true, if_false, reduceIte, Int.reduceMul, Int.reduceAdd, Int.reduceSub]
      refine ⟨by omega, by omega, t_Sum_add (hTs.sumO hh) hT r1 (by omega) (fun υ j1 j2 => ⟨by omega, ?_⟩)⟩
      have := ih (j + 1) u1 u3 (zkill u4) υ (by omega) (j2.lz (by omega) (by omega) hA) (by rw [tbl_snoc]; exact j1) (f1.tr (j2.mono (fun a w => Or.inr w)))
      rw [Int.natCast_succ] at this
      exact this
  have k17 : ∀ (e : Nat) (j : Int) (τ : ZM), j + 1 = (e : Int) → j < (uD l : Int) → (∀ k : Int, j < k → k < (uD l : Int) → zI τ 148 k = uA l k ∧ zI τ 149 k = uL l k) → Fr (fun a => a = 148 ∨ a = 149) σ τ → WP m_Leads_unbend 17 [zr 146, zr g, zr h, zi (uD l : Int), zi (ubS l (2 * (j + 1))), zi j] [] τ (0, 0) Q := by
    intro e
    induction e with
    | zero =>
      intro j τ hj hjd hv f1
      have hTs := f1.shp hS
      refine r_Leads_unbend_17 ?_
      simp only [hTs, zrI, zrL, zrR, Shp_wI, Shp_wJ, zR_wI, zR_wJ, zJ_wI, zI_wJ, zobj_wI, zobj_wJ, zarr_wI, zarr_wJ, zS_wI, zS_wJ, o_2, a_3, a_4, a_5, o_10, a_11, a_12, o_137, o_138, a_139, o_140, a_141, o_142, a_143, o_146, a_147, a_148, a_149, o_152, a_153, o_154, a_157, o_158, a_159, r_2_0, r_2_1, r_2_2, r_2_3, r_2_4, r_2_5, r_2_6, r_2_7, r_2_8, r_2_9, r_2_10, r_10_0, r_10_1, r_137_0, r_137_1, r_137_2, r_138_0, r_140_0, r_142_0, r_146_0, r_146_1, r_146_2, r_146_3, r_152_0, r_154_0, r_154_1, r_158_0, zrI, zrL, zrR, ne_eq, true_and, and_true, true_or, or_true, not_true_eq_false, not_false_eq_true, false_and, and_false, forall_const, true_implies, false_implies, implies_true, reduceCtorEq, Int.reduceEq, Int.reduceNe, Int.reduceLT, Int.reduceLE, Int.reduceNeg, Nat.reduceEqDiff, if_true, if_false, reduceIte, Int.reduceMul, Int.reduceAdd, Int.reduceSub]
      refine ⟨fun _ => t_draw hTs hi (by omega) hD (fun k k0 k1 => (hv k (by omega) k1).1) (fun k k0 k1 => (hv k (by omega) k1).2) (fun υ j1 j2 => ?_), fun w => by omega⟩
      have hU := j2.shp hTs
      simp only [(hU.sumO hh).1, zrI, zrL, zrR, ne_eq, true_and, and_true, true_or, or_true, not_true_eq_false, not_false_eq_true, false_and, and_false, forall_const, true_implies, false_implies, implies_true, reduceCtorEq, Int.reduceEq, Int.reduceNe, Int.reduceLT, Int.reduceLE, Int.reduceNeg, Nat.reduceEqDiff, if_true, if_false, reduceIte, Int.reduceMul, Int.reduceAdd, Int.reduceSub]
      refine t_Sum_empty (hU.sumO hh) (fun ξ w1 w2 => k93 (drH (uL l) (uD l)) 0 _ _ _ ξ (by omega) (w2.lz (by omega) (by omega) j1) w1 (((f1.mono (fun a w => Or.inl (by omega))).tr (j2.mono (fun a w => Or.inl (by omega)))).tr (w2.mono (fun a w => Or.inr w))))
    | succ e ih =>
      intro j τ hj hjd hv f1
      have hTs := f1.shp hS
      have hlT := f1.lz (by omega) (by omega) hl
      have a1 := ubS_step (l := l) (i := 2 * j) (by omega)
      have a2 := ubS_step (l := l) (i := 2 * j + 1) (by omega)
      have b1 := ubS_b hp hu (i := 2 * j) (by omega)
      have b2 := ubS_b hp hu (i := 2 * j + 1) (by omega)
      have g1 := hp.rng (2 * j)
      have g2 := hp.rng (2 * j + 1)
      rw [show 2 * (j + 1) = 2 * j + 1 + 1 by omega]
      have f2 : Fr (fun a => a = 148 ∨ a = 149) τ (wI τ 148 j (uA l j)) := Fr.wI (Or.inl rfl)
      have hT2 := f2.shp hTs
      have v1 : zI (wI τ 148 j (uA l j)) 148 j = uA l j := by rw [zI_wI, if_pos ⟨rfl, rfl⟩]
      have eA : ga l (2 * j + 1) - ubS l (2 * j + 1 + 1) = uA l j := by unfold uA; omega
      have eC : ga l (2 * j) - uA l j = ubS l (2 * j) := by unfold uA; omega
      refine r_Leads_unbend_17 ?_
      simp only [hTs, (hTs.sumO hg).1, zrI, zrL, zrR, Shp_wI, Shp_wJ, zR_wI, zR_wJ, zJ_wI, zI_wJ, zobj_wI, zobj_wJ, zarr_wI, zarr_wJ, zS_wI, zS_wJ, o_2, a_3, a_4, a_5, o_10, a_11, a_12, o_137, o_138, a_139, o_140, a_141, o_142, a_143, o_146, a_147, a_148, a_149, o_152, a_153, o_154, a_157, o_158, a_159, r_2_0, r_2_1, r_2_2, r_2_3, r_2_4, r_2_5, r_2_6, r_2_7, r_2_8, r_2_9, r_2_10, r_10_0, r_10_1, r_137_0, r_137_1, r_137_2, r_138_0, r_140_0, r_142_0, r_146_0, r_146_1, r_146_2, r_146_3, r_152_0, r_154_0, r_154_1, r_158_0, zrI, zrL, zrR, ne_eq, true_and, and_true, true_or, or_true, not_true_eq_false, not_false_eq_true, false_and, and_false, forall_const, true_implies, false_implies, implies_true, reduceCtorEq, Int.reduceEq, Int.reduceNe, Int.reduceLT, Int.reduceLE, Int.reduceNeg, Nat.reduceEqDiff, if_true, if_false, reduceIte, Int.reduceMul, Int.reduceAdd, Int.reduceSub]
      refine ⟨fun w => by omega, fun _ => ⟨by omega, by omega, t_Sum_at (hTs.sumO hg) hlT ?_⟩⟩
      simp only [hTs, eA, (hTs.sumO hg).1, zrI, zrL, zrR, Shp_wI, Shp_wJ, zR_wI, zR_wJ, zJ_wI, zI_wJ, zobj_wI, zobj_wJ, zarr_wI, zarr_wJ, zS_wI, zS_wJ, o_2, a_3, a_4, a_5, o_10, a_11, a_12, o_137, o_138, a_139, o_140, a_141, o_142, a_143, o_146, a_147, a_148, a_149, o_152, a_153, o_154, a_157, o_158, a_159, r_2_0, r_2_1, r_2_2, r_2_3, r_2_4, r_2_5, r_2_6, r_2_7, r_2_8, r_2_9, r_2_10, r_10_0, r_10_1, r_137_0, r_137_1, r_137_2, r_138_0, r_140_0, r_142_0, r_146_0, r_146_1, r_146_2, r_146_3, r_152_0, r_154_0, r_154_1, r_158_0, zrI, zrL, zrR, ne_eq, true_and, and_true, true_or, or_true, not_true_eq_false, not_false_eq_true, false_and, and_false, forall_const, true_implies, false_implies, implies_true, reduceCtorEq, Int.reduceEq, Int.reduceNe, Int.reduceLT, Int.reduceLE, Int.reduceNeg, Nat.reduceEqDiff, if_true, if_false, reduceIte, Int.reduceMul, Int.reduceAdd, Int.reduceSub]
      refine ⟨by unfold uA; omega, by omega, by omega, t_Sum_at (hT2.sumO hg) (f2.lz (by omega) (by omega) hlT) ?_⟩
      simp only [hTs, v1, eC, zrI, zrL, zrR, Shp_wI, Shp_wJ, zR_wI, zR_wJ, zJ_wI, zI_wJ, zobj_wI, zobj_wJ, zarr_wI, zarr_wJ, zS_wI, zS_wJ, o_2, a_3, a_4, a_5, o_10, a_11, a_12, o_137, o_138, a_139, o_140, a_141, o_142, a_143, o_146, a_147, a_148, a_149, o_152, a_153, o_154, a_157, o_158, a_159, r_2_0, r_2_1, r_2_2, r_2_3, r_2_4, r_2_5, r_2_6, r_2_7, r_2_8, r_2_9, r_2_10, r_10_0, r_10_1, r_137_0, r_137_1, r_137_2, r_138_0, r_140_0, r_142_0, r_146_0, r_146_1, r_146_2, r_146_3, r_152_0, r_154_0, r_154_1, r_158_0, zrI, zrL, zrR, ne_eq, true_and, and_true, true_or, or_true, not_true_eq_false, not_false_eq_true, false_and, and_false, forall_const, true_implies, false_implies, implies_true, reduceCtorEq, Int.reduceEq, Int.reduceNe, Int.reduceLT, Int.reduceLE, Int.reduceNeg, Nat.reduceEqDiff, if_true, if_false, reduceIte, Int.reduceMul, Int.reduceAdd, Int.reduceSub]
      refine ⟨by omega, by omega, by omega, by omega, by omega, ?_⟩
      have := ih (j + -1) (wI (wI τ 148 j (uA l j)) 149 j (ubS l (2 * j) - 1)) (by omega) (by omega) (fun k k0 k1 => by
        rw [zI_wI, if_neg (by omega), zI_wI, zI_wI, zI_wI]
        by_cases c : k = j
        · rw [if_pos ⟨rfl, c⟩, if_pos ⟨rfl, c⟩, c]
          exact ⟨rfl, rfl⟩
        · rw [if_neg (by omega), if_neg (by omega), if_neg (by omega)]
          exact hv k (by omega) k1) ((f1.tr f2).tr (Fr.wI (Or.inr rfl)))
      rw [show 2 * (j + -1 + 1) = 2 * j by omega] at this
      exact this
  have e2 : Int.tdiv ((l.length : Int) + 1) 2 = (uD l : Int) := by
    rw [Int.tdiv_eq_ediv_of_nonneg (by omega)]
    unfold uD
    omega
  refine r_Leads_unbend_0 ?_
  simp only [(hS.sumO hg).1, hl1, e2, zrI, zrL, zrR, ne_eq, true_and, and_true, true_or, or_true, not_true_eq_false, not_false_eq_true, false_and, and_false, forall_const, true_implies, false_implies, implies_true, reduceCtorEq, Int.reduceEq, Int.reduceNe, Int.reduceLT, Int.reduceLE, Int.reduceNeg, Nat.reduceEqDiff, if_true, if_false, reduceIte, Int.reduceMul, Int.reduceAdd, Int.reduceSub]
  refine ⟨by omega, by omega, by omega, ?_⟩
  have := k17 (uD l) ((uD l : Int) - 1) σ (by omega) (by omega) (fun k k0 k1 => by omega) Fr.rf
  rw [ubS_out (l := l) (i := 2 * ((uD l : Int) - 1 + 1)) (by omega)] at this
  exact this
