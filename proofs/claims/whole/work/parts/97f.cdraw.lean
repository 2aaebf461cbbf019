/-! lead 2, class: draw, hooksToOwn, ownToHooks -/
theorem t_columns {Q : ZQ} {σ : ZM} {L : Int → Int} {d : Nat} {row : Int} (hS : Shp σ) (hd : d ≤ 400) (hL : ∀ k : Int, 0 ≤ k → k < (d : Int) → zI σ 149 k = L k ∧ 0 ≤ L k ∧ L k ≤ 400) (q : ∀ c : Int, 0 ≤ c → c ≤ (d : Int) → (∀ k, 0 ≤ k → k < c → row ≤ k + L k) → (c < (d : Int) → c + L c < row) → Q (zi c) σ) : WP m_Leads_columnsDownTo 0 [zr 146, zi row, zi (d : Int), zu] [] σ (0, 0) Q := by
  have k2 : ∀ (e : Nat) (c : Int), 0 ≤ c → c + e = (d : Int) → (∀ k, 0 ≤ k → k < c → row ≤ k + L k) → WP m_Leads_columnsDownTo 2 [zr 146, zi row, zi (d : Int), zi c] [] σ (0, 0) Q := by
    intro e
    induction e with
    | zero =>
      intro c c0 hc hn
      exact r_Leads_columnsDownTo_2 ⟨fun _ => q c c0 (by omega) hn (fun w => by omega), fun w => by omega⟩
    | succ e ih =>
      intro c c0 hc hn
      obtain ⟨v1, v2, v3⟩ := hL c c0 (by omega)
      refine r_Leads_columnsDownTo_2 ?_
      simp only [hS, v1, zrI, zrL, zrR, Shp_wI, Shp_wJ, zR_wI, zR_wJ, zJ_wI, zI_wJ, zobj_wI, zobj_wJ, zarr_wI, zarr_wJ, zS_wI, zS_wJ, o_2, a_3, a_4, a_5, o_10, a_11, a_12, o_137, o_138, a_139, o_140, a_141, o_142, a_143, o_146, a_147, a_148, a_149, o_152, a_153, o_154, a_157, o_158, a_159, r_2_0, r_2_1, r_2_2, r_2_3, r_2_4, r_2_5, r_2_6, r_2_7, r_2_8, r_2_9, r_2_10, r_10_0, r_10_1, r_137_0, r_137_1, r_137_2, r_138_0, r_140_0, r_142_0, r_146_0, r_146_1, r_146_2, r_146_3, r_152_0, r_154_0, r_154_1, r_158_0, zrI, zrL, zrR, ne_eq, true_and, and_true, true_or, or_true, not_true_eq_false, not_false_eq_true, false_and, and_false, forall_const, true_implies, false_implies, implies_true, reduceCtorEq, Int.reduceEq, Int.reduceNe, Int.reduceLT, Int.reduceLE, Int.reduceNeg, Nat.reduceEqDiff, if_true, if_false, reduceIte, Int.reduceMul, Int.reduceAdd, Int.reduceSub]
      refine ⟨fun w => by omega, fun _ => ⟨by omega, by omega, fun w => q c c0 (by omega) hn (fun _ => w), fun w => ⟨by omega, ih (c + 1) (by omega) (by omega) (fun k k0 k1 => ?_)⟩⟩⟩
      by_cases ek : k = c
      · rw [ek]; exact w
      · exact hn k k0 (by omega)
  exact r_Leads_columnsDownTo_0 (k2 d 0 (by omega) (by omega) (fun k k0 k1 => by omega))
theorem DrP.le {A L : Int → Int} {d : Nat} (h : DrP A L d) {k : Int} (k0 : 0 ≤ k) (k1 : k < (d : Int)) : A k + L k + 1 ≤ 400 := by
  have := sm_term (f := fun k => A k + L k + 1) d (fun i i0 i1 => by
    have := h.1 i i0 i1
    show 0 ≤ A i + L i + 1
    omega) k k0 k1
  exact Int.le_trans this h.2.2
theorem t_draw {Q : ZQ} {σ : ZM} {A L : Int → Int} {d h : Nat} (hS : Shp σ) (hh : isS h) (hne : h ≠ 148 ∧ h ≠ 149 ∧ h + 1 ≠ 148 ∧ h + 1 ≠ 149) (hD : DrP A L d) (hA : ∀ k : Int, 0 ≤ k → k < (d : Int) → zI σ 148 k = A k) (hL : ∀ k : Int, 0 ≤ k → k < (d : Int) → zI σ 149 k = L k) (q : ∀ σ', Lz σ' h (drL A L d) → Fr (two h) σ σ' → Q zu σ') : WP m_Leads_draw 0 [zr 146, zi (d : Int), zr h, zu, zu] [] σ (0, 0) Q := by
  have hPt := hD.isPt
  have hd4 := hD.len
  have hh1 := hD.hgt
  have hH4 : drH L d ≤ 400 := by
    have := hPt.len
    unfold drL at this
    rw [tbl_len] at this
    omega
  have k51 : ∀ (e j : Nat) (τ : ZM), j + e = drH L d → d ≤ j → Lz τ h (tbl (drR A L d) j) → Fr (two h) σ τ → WP m_Leads_draw 51 [zr 146, zi (d : Int), zr h, zi (drH L d : Int), zi (j : Int)] [] τ (0, 0) Q := by
    intro e
    induction e with
    | zero =>
      intro j τ hj hd hT f1
      rw [show j = drH L d by omega] at hT
      exact r_Leads_draw_51 ⟨fun _ => q τ hT f1, fun w => by omega⟩
    | succ e ih =>
      intro j τ hj hd hT f1
      have hTs := f1.shp hS
      refine r_Leads_draw_51 ?_
      simp only [hTs, zrI, zrL, zrR, Shp_wI, Shp_wJ, zR_wI, zR_wJ, zJ_wI, zI_wJ, zobj_wI, zobj_wJ, zarr_wI, zarr_wJ, zS_wI, zS_wJ, o_2, a_3, a_4, a_5, o_10, a_11, a_12, o_137, o_138, a_139, o_140, a_141, o_142, a_143, o_146, a_147, a_148, a_149, o_152, a_153, o_154, a_157, o_158, a_159, r_2_0, r_2_1, r_2_2, r_2_3, r_2_4, r_2_5, r_2_6, r_2_7, r_2_8, r_2_9, r_2_10, r_10_0, r_10_1, r_137_0, r_137_1, r_137_2, r_138_0, r_140_0, r_142_0, r_146_0, r_146_1, r_146_2, r_146_3, r_152_0, r_154_0, r_154_1, r_158_0, zrI, zrL, zrR, ne_eq, true_and, and_true, true_or, or_true, not_true_eq_false, not_false_eq_true, false_and, and_false, forall_const, true_implies, false_implies, implies_true, reduceCtorEq, Int.reduceEq, Int.reduceNe, Int.reduceLT, Int.reduceLE, Int.reduceNeg, Nat.reduceEqDiff, if_true, if_false, reduceIte, Int.reduceMul, Int.reduceAdd, Int.reduceSub]
      refine ⟨fun w => by omega, fun _ => t_columns (L := L) hTs hd4 (fun k k0 k1 => ?_) (fun c c0 c1 c2 c3 => ?_)⟩
      · have h1 := hD.1 k k0 k1
        have h2 := hD.le k0 k1
        exact ⟨by rw [(f1.2.2.2 149 (by omega)).1]; exact hL k k0 k1, by omega, by omega⟩
      · have er := hD.high (row := (j : Int)) (by omega) c0 c1 c2 c3
        obtain ⟨r1, r2, r3⟩ := Pt.room (f := drR A L d) (n := drH L d) (j := j) hPt (by omega)
        rw [er] at r2 r3
        simp only [(hTs.sumO hh).1, zrI, zrL, zrR, ne_eq, true_and, and_true, true_or, or_true, not_true_eq_false, not_false_eq_true, false_and, and_false, forall_const, true_implies, false_implies, implies_true, reduceCtorEq, Int.reduceEq, Int.reduceNe, Int.reduceLT, Int.reduceLE, Int.reduceNeg, Nat.reduceEqDiff, if_true, if_false, reduceIte, Int.reduceMul, Int.reduceAdd, Int.reduceSub]
        refine t_Sum_add (hTs.sumO hh) hT r1 (by omega) (fun υ j1 j2 => ⟨by omega, ?_⟩)
        rw [← er, ← tbl_snoc] at j1
        have := ih (j + 1) υ (by omega) (by omega) j1 (f1.tr j2)
        rw [Int.natCast_succ] at this
        exact this
  have k6 : ∀ (e j : Nat) (u : PV) (τ : ZM), j + e = d → Lz τ h (tbl (drR A L d) j) → Fr (two h) σ τ → WP m_Leads_draw 6 [zr 146, zi (d : Int), zr h, zi (j : Int), u] [] τ (0, 0) Q := by
    intro e
    induction e with
    | zero =>
      intro j u τ hj hT f1
      have hTs := f1.shp hS
      have ej : j = d := by omega
      subst ej
      refine r_Leads_draw_6 ?_
      by_cases c : j = 0
      · refine ⟨fun _ => ⟨fun _ => ?_, fun w => by omega⟩, fun w => by omega⟩
        have := k51 0 j τ (by unfold drH; rw [if_pos c]; omega) (Nat.le_refl _) hT f1
        rw [show (drH L j : Int) = 0 by unfold drH; rw [if_pos c]; rfl] at this
        exact this
      · have v0 : zI τ 149 0 = L 0 := by rw [(f1.2.2.2 149 (by omega)).1]; exact hL 0 (by omega) (by omega)
        have h2 := hh1.2 (by omega)
        have h3 := hD.1 0 (by omega) (by omega)
        have h4 := hD.le (k := 0) (by omega) (by omega)
        simp only [hTs, v0, zrI, zrL, zrR, Shp_wI, Shp_wJ, zR_wI, zR_wJ, zJ_wI, zI_wJ, zobj_wI, zobj_wJ, zarr_wI, zarr_wJ, zS_wI, zS_wJ, o_2, a_3, a_4, a_5, o_10, a_11, a_12, o_137, o_138, a_139, o_140, a_141, o_142, a_143, o_146, a_147, a_148, a_149, o_152, a_153, o_154, a_157, o_158, a_159, r_2_0, r_2_1, r_2_2, r_2_3, r_2_4, r_2_5, r_2_6, r_2_7, r_2_8, r_2_9, r_2_10, r_10_0, r_10_1, r_137_0, r_137_1, r_137_2, r_138_0, r_140_0, r_142_0, r_146_0, r_146_1, r_146_2, r_146_3, r_152_0, r_154_0, r_154_1, r_158_0, zrI, zrL, zrR, ne_eq, true_and, and_true, true_or, or_true, not_true_eq_false, not_false_eq_true, false_and, and_false, forall_const, true_implies, false_implies, implies_true, reduceCtorEq, Int.reduceEq, Int.reduceNe, Int.reduceLT, Int.reduceLE, Int.reduceNeg, Nat.reduceEqDiff, if_true, if_false, reduceIte, Int.reduceMul, Int.reduceAdd, Int.reduceSub]
        refine ⟨fun _ => ⟨fun w => by omega, fun _ => ⟨by omega, ?_⟩⟩, fun w => by omega⟩
        have := k51 (drH L j - j) j τ (by omega) (Nat.le_refl _) hT f1
        rw [h2] at this
        exact this
    | succ e ih =>
      intro j u τ hj hT f1
      have hTs := f1.shp hS
      have v0 : zI τ 148 (j : Int) = A (j : Int) := by rw [(f1.2.2.2 148 (by omega)).1]; exact hA (j : Int) (by omega) (by omega)
      have h3 := hD.1 (j : Int) (by omega) (by omega)
      have h4 := hD.le (k := (j : Int)) (by omega) (by omega)
      have er := hD.low (row := (j : Int)) (by omega) (by omega)
      obtain ⟨r1, r2, r3⟩ := Pt.room (f := drR A L d) (n := drH L d) (j := j) hPt (by omega)
      rw [er] at r2 r3
      refine r_Leads_draw_6 ?_
      simp only [hTs, v0, (hTs.sumO hh).1, zrI, zrL, zrR, Shp_wI, Shp_wJ, zR_wI, zR_wJ, zJ_wI, zI_wJ, zobj_wI, zobj_wJ, zarr_wI, zarr_wJ, zS_wI, zS_wJ, o_2, a_3, a_4, a_5, o_10, a_11, a_12, o_137, o_138, a_139, o_140, a_141, o_142, a_143, o_146, a_147, a_148, a_149, o_152, a_153, o_154, a_157, o_158, a_159, r_2_0, r_2_1, r_2_2, r_2_3, r_2_4, r_2_5, r_2_6, r_2_7, r_2_8, r_2_9, r_2_10, r_10_0, r_10_1, r_137_0, r_137_1, r_137_2, r_138_0, r_140_0, r_142_0, r_146_0, r_146_1, r_146_2, r_146_3, r_152_0, r_154_0, r_154_1, r_158_0, zrI, zrL, zrR, ne_eq, true_and, and_true, true_or, or_true, not_true_eq_false, not_false_eq_true, false_and, and_false, forall_const, true_implies, false_implies, implies_true, reduceCtorEq, Int.reduceEq, Int.reduceNe, Int.reduceLT, Int.reduceLE, Int.reduceNeg, Nat.reduceEqDiff, if_true, if_false, reduceIte, Int.reduceMul, Int.reduceAdd, Int.reduceSub]
      refine ⟨fun w => by omega, fun _ => ⟨by omega, by omega, by omega, t_Sum_add (hTs.sumO hh) hT r1 (by omega) (fun υ j1 j2 => ⟨by omega, ?_⟩)⟩⟩
      rw [← er, ← tbl_snoc] at j1
      have := ih (j + 1) u υ (by omega) j1 (f1.tr j2)
      rw [Int.natCast_succ] at this
      exact this
  refine r_Leads_draw_0 ?_
  simp only [(hS.sumO hh).1, zrI, zrL, zrR, ne_eq, true_and, and_true, true_or, or_true, not_true_eq_false, not_false_eq_true, false_and, and_false, forall_const, true_implies, false_implies, implies_true, reduceCtorEq, Int.reduceEq, Int.reduceNe, Int.reduceLT, Int.reduceLE, Int.reduceNeg, Nat.reduceEqDiff, if_true, if_false, reduceIte, Int.reduceMul, Int.reduceAdd, Int.reduceSub]
  exact t_Sum_empty (hS.sumO hh) (fun τ w1 w2 => k6 d 0 zu τ (by omega) w1 w2)
abbrev drf (h : Nat) (a : Nat) : Prop := (a = 148 ∨ a = 149) ∨ two h a
theorem t_hooksToOwn {Q : ZQ} {σ : ZM} {g h : Nat} {l : List Int} (hS : Shp σ) (hg : isS g) (hh : isS h) (hgn : g ≠ 148 ∧ g ≠ 149 ∧ g + 1 ≠ 148 ∧ g + 1 ≠ 149) (hne : h ≠ 148 ∧ h ≠ 149 ∧ h + 1 ≠ 148 ∧ h + 1 ≠ 149) (hl : Lz σ g l) (hp : Pt l) (hu : unL l) (ho : odL l) (q : ∀ σ', Lz σ' h (drL (hfL l) (hfL l) l.length) → Fr (drf h) σ σ' → Q zu σ') : WP m_Leads_hooksToOwn 0 [zr 146, zr g, zr h, zu] [] σ (0, 0) Q := by
  have hlen := hp.len
  have h4 := hp.2.1
  have k2 : ∀ (e j : Nat) (τ : ZM), j + e = l.length → (∀ k : Int, 0 ≤ k → k < (j : Int) → zI τ 148 k = hfL l k) → (∀ k : Int, 0 ≤ k → k < (j : Int) → zI τ 149 k = hfL l k) → Fr (fun a => a = 148 ∨ a = 149) σ τ → WP m_Leads_hooksToOwn 2 [zr 146, zr g, zr h, zi (j : Int)] [] τ (0, 0) Q := by
    intro e
    induction e with
    | zero =>
      intro j τ hj hA hL f1
      have hTs := f1.shp hS
      have hlT := f1.lz (by omega) (by omega) hl
      have hlT1 := hlT.1
      rw [show j = l.length by omega] at hA hL
      refine r_Leads_hooksToOwn_2 ?_
      simp only [hTs, (hTs.sumO hg).1, hlT1, zrI, zrL, zrR, Shp_wI, Shp_wJ, zR_wI, zR_wJ, zJ_wI, zI_wJ, zobj_wI, zobj_wJ, zarr_wI, zarr_wJ, zS_wI, zS_wJ, o_2, a_3, a_4, a_5, o_10, a_11, a_12, o_137, o_138, a_139, o_140, a_141, o_142, a_143, o_146, a_147, a_148, a_149, o_152, a_153, o_154, a_157, o_158, a_159, r_2_0, r_2_1, r_2_2, r_2_3, r_2_4, r_2_5, r_2_6, r_2_7, r_2_8, r_2_9, r_2_10, r_10_0, r_10_1, r_137_0, r_137_1, r_137_2, r_138_0, r_140_0, r_142_0, r_146_0, r_146_1, r_146_2, r_146_3, r_152_0, r_154_0, r_154_1, r_158_0, zrI, zrL, zrR, ne_eq, true_and, and_true, true_or, or_true, not_true_eq_false, not_false_eq_true, false_and, and_false, forall_const, true_implies, false_implies, implies_true, reduceCtorEq, Int.reduceEq, Int.reduceNe, Int.reduceLT, Int.reduceLE, Int.reduceNeg, Nat.reduceEqDiff, if_true, if_false, reduceIte, Int.reduceMul, Int.reduceAdd, Int.reduceSub]
      exact ⟨fun _ => t_draw hTs hh hne (hfL_DrP hp hu ho) hA hL (fun υ j1 j2 => q υ j1 ((f1.mono (fun a w => Or.inl w)).tr (j2.mono (fun a w => Or.inr w)))), fun w => by omega⟩
    | succ e ih =>
      intro j τ hj hA hL f1
      have hTs := f1.shp hS
      have hlT := f1.lz (by omega) (by omega) hl
      have hlT1 := hlT.1
      have hr := hp.rng (j : Int)
      have e2 : Int.tdiv (ga l (j : Int)) 2 = hfL l (j : Int) := Int.tdiv_eq_ediv_of_nonneg (by omega)
      have e3 : 0 ≤ hfL l (j : Int) ∧ hfL l (j : Int) ≤ 400 := by unfold hfL; omega
      refine r_Leads_hooksToOwn_2 ?_
      simp only [hTs, (hTs.sumO hg).1, hlT1, zrI, zrL, zrR, Shp_wI, Shp_wJ, zR_wI, zR_wJ, zJ_wI, zI_wJ, zobj_wI, zobj_wJ, zarr_wI, zarr_wJ, zS_wI, zS_wJ, o_2, a_3, a_4, a_5, o_10, a_11, a_12, o_137, o_138, a_139, o_140, a_141, o_142, a_143, o_146, a_147, a_148, a_149, o_152, a_153, o_154, a_157, o_158, a_159, r_2_0, r_2_1, r_2_2, r_2_3, r_2_4, r_2_5, r_2_6, r_2_7, r_2_8, r_2_9, r_2_10, r_10_0, r_10_1, r_137_0, r_137_1, r_137_2, r_138_0, r_140_0, r_142_0, r_146_0, r_146_1, r_146_2, r_146_3, r_152_0, r_154_0, r_154_1, r_158_0, zrI, zrL, zrR, ne_eq, true_and, and_true, true_or, or_true, not_true_eq_false, not_false_eq_true, false_and, and_false, forall_const, true_implies, false_implies, implies_true, reduceCtorEq, Int.reduceEq, Int.reduceNe, Int.reduceLT, Int.reduceLE, Int.reduceNeg, Nat.reduceEqDiff, if_true, if_false, reduceIte, Int.reduceMul, Int.reduceAdd, Int.reduceSub]
      refine ⟨fun w => by omega, fun _ => t_Sum_at (hTs.sumO hg) hlT ?_⟩
      simp only [hTs, e2, (hTs.sumO hg).1, zrI, zrL, zrR, Shp_wI, Shp_wJ, zR_wI, zR_wJ, zJ_wI, zI_wJ, zobj_wI, zobj_wJ, zarr_wI, zarr_wJ, zS_wI, zS_wJ, o_2, a_3, a_4, a_5, o_10, a_11, a_12, o_137, o_138, a_139, o_140, a_141, o_142, a_143, o_146, a_147, a_148, a_149, o_152, a_153, o_154, a_157, o_158, a_159, r_2_0, r_2_1, r_2_2, r_2_3, r_2_4, r_2_5, r_2_6, r_2_7, r_2_8, r_2_9, r_2_10, r_10_0, r_10_1, r_137_0, r_137_1, r_137_2, r_138_0, r_140_0, r_142_0, r_146_0, r_146_1, r_146_2, r_146_3, r_152_0, r_154_0, r_154_1, r_158_0, zrI, zrL, zrR, ne_eq, true_and, and_true, true_or, or_true, not_true_eq_false, not_false_eq_true, false_and, and_false, forall_const, true_implies, false_implies, implies_true, reduceCtorEq, Int.reduceEq, Int.reduceNe, Int.reduceLT, Int.reduceLE, Int.reduceNeg, Nat.reduceEqDiff, if_true, if_false, reduceIte, Int.reduceMul, Int.reduceAdd, Int.reduceSub]
      have f2 : Fr (fun a => a = 148 ∨ a = 149) τ (wI τ 148 (j : Int) (hfL l (j : Int))) := Fr.wI (Or.inl rfl)
      have hT2 := f2.shp hTs
      refine ⟨by omega, by omega, t_Sum_at (hT2.sumO hg) (f2.lz (by omega) (by omega) hlT) ?_⟩
      simp only [hTs, e2, zrI, zrL, zrR, Shp_wI, Shp_wJ, zR_wI, zR_wJ, zJ_wI, zI_wJ, zobj_wI, zobj_wJ, zarr_wI, zarr_wJ, zS_wI, zS_wJ, o_2, a_3, a_4, a_5, o_10, a_11, a_12, o_137, o_138, a_139, o_140, a_141, o_142, a_143, o_146, a_147, a_148, a_149, o_152, a_153, o_154, a_157, o_158, a_159, r_2_0, r_2_1, r_2_2, r_2_3, r_2_4, r_2_5, r_2_6, r_2_7, r_2_8, r_2_9, r_2_10, r_10_0, r_10_1, r_137_0, r_137_1, r_137_2, r_138_0, r_140_0, r_142_0, r_146_0, r_146_1, r_146_2, r_146_3, r_152_0, r_154_0, r_154_1, r_158_0, zrI, zrL, zrR, ne_eq, true_and, and_true, true_or, or_true, not_true_eq_false, not_false_eq_true, false_and, and_false, forall_const, true_implies, false_implies, implies_true, reduceCtorEq, Int.reduceEq, Int.reduceNe, Int.reduceLT, Int.reduceLE, Int.reduceNeg, Nat.reduceEqDiff, if_true, if_false, reduceIte, Int.reduceMul, Int.reduceAdd, Int.reduceSub]
      refine ⟨by omega, by omega, by omega, ?_⟩
      have := ih (j + 1) (wI (wI τ 148 (j : Int) (hfL l (j : Int))) 149 (j : Int) (hfL l (j : Int))) (by omega) (fun k k0 k1 => by
        rw [zI_wI, if_neg (by omega), zI_wI]
        by_cases c : k = (j : Int)
        · rw [if_pos ⟨rfl, c⟩, c]
        · rw [if_neg (by omega)]
          exact hA k k0 (by omega)) (fun k k0 k1 => by
        rw [zI_wI]
        by_cases c : k = (j : Int)
        · rw [if_pos ⟨rfl, c⟩, c]
        · rw [if_neg (by omega), zI_wI, if_neg (by omega)]
          exact hL k k0 (by omega)) ((f1.tr f2).tr (Fr.wI (Or.inr rfl)))
      rw [Int.natCast_succ] at this
      exact this
  exact r_Leads_hooksToOwn_0 (k2 l.length 0 σ (by omega) (fun k k0 k1 => by omega) (fun k k0 k1 => by omega) Fr.rf)
theorem t_ownToHooks {Q : ZQ} {σ : ZM} {g h : Nat} {l : List Int} (hd : h ≠ g ∧ h ≠ g + 1 ∧ h + 1 ≠ g) (og : SumO σ g) (oh : SumO σ h) (hl : Lz σ g l) (hp : Pt l) (ho : owL l) (q : ∀ r : Int, Fst (fun i => i < ga l i) r → ∀ σ', Lz σ' h (tbl (ohR l) r.toNat) → Fr (two h) σ σ' → Q zu σ') : WP m_Leads_ownToHooks 0 [zr g, zr h, zu] [] σ (0, 0) Q := by
  have hlen := hp.len
  have h4 := hp.2.1
  have k6 : ∀ (e j : Nat) (τ : ZM), j + e = 401 → (∀ i : Int, 0 ≤ i → i < (j : Int) → i < ga l i) → Lz τ h (tbl (ohR l) j) → Fr (two h) σ τ → WP m_Leads_ownToHooks 6 [zr g, zr h, zi (j : Int)] [] τ (0, 0) Q := by
    intro e
    induction e with
    | zero =>
      intro j τ hj hn hT f1
      have := hn 400 (by omega) (by omega)
      rw [ga_out (by omega)] at this
      omega
    | succ e ih =>
      intro j τ hj hn hT f1
      have ogT := f1.sumO og
      have ohT := f1.sumO oh
      have hlT := f1.lz (by omega) (by omega) hl
      refine r_Leads_ownToHooks_6 ?_
      simp only [ogT.1, zrI, zrL, zrR, ne_eq, true_and, and_true, true_or, or_true, not_true_eq_false, not_false_eq_true, false_and, and_false, forall_const, true_implies, false_implies, implies_true, reduceCtorEq, Int.reduceEq, Int.reduceNe, Int.reduceLT, Int.reduceLE, Int.reduceNeg, Nat.reduceEqDiff, if_true, if_false, reduceIte, Int.reduceMul, Int.reduceAdd, Int.reduceSub]
      refine t_Sum_side ogT hlT (fun r hr => ?_)
      simp only [ogT.1, zrI, zrL, zrR, ne_eq, true_and, and_true, true_or, or_true, not_true_eq_false, not_false_eq_true, false_and, and_false, forall_const, true_implies, false_implies, implies_true, reduceCtorEq, Int.reduceEq, Int.reduceNe, Int.reduceLT, Int.reduceLE, Int.reduceNeg, Nat.reduceEqDiff, if_true, if_false, reduceIte, Int.reduceMul, Int.reduceAdd, Int.reduceSub]
      refine ⟨fun w => ?_, fun w => t_Sum_at ogT hlT ?_⟩
      · have er : r = (j : Int) := by
          rcases Int.lt_or_le r (j : Int) with v | v
          · exact absurd (hn r hr.1 v) hr.2.2
          · omega
        refine q r hr τ ?_ f1
        rw [er, Int.toNat_natCast]
        exact hT
      · have hlt : (j : Int) < ga l (j : Int) := hr.2.1 (j : Int) (by omega) w
        have hr2 := hp.rng (j : Int)
        have hn' : ∀ i : Int, 0 ≤ i → i < ((j + 1 : Nat) : Int) → i < ga l i := fun i i0 i1 => by
          by_cases c : i = (j : Int)
          · rw [c]; exact hlt
          · exact hn i i0 (by omega)
        obtain ⟨r1, r2, r3⟩ := Pt.room (f := ohR l) (n := j + 1) (j := j) (ohR_Pt hp ho hn') (by omega)
        have eo : ohR l (j : Int) = 2 * (ga l (j : Int) - (j : Int)) - 1 := rfl
        rw [eo] at r2
        simp only [ohT.1, zrI, zrL, zrR, ne_eq, true_and, and_true, true_or, or_true, not_true_eq_false, not_false_eq_true, false_and, and_false, forall_const, true_implies, false_implies, implies_true, reduceCtorEq, Int.reduceEq, Int.reduceNe, Int.reduceLT, Int.reduceLE, Int.reduceNeg, Nat.reduceEqDiff, if_true, if_false, reduceIte, Int.reduceMul, Int.reduceAdd, Int.reduceSub]
        refine ⟨by omega, by omega, by omega, t_Sum_add ohT hT r1 (by omega) (fun υ j1 j2 => ⟨by omega, ?_⟩)⟩
        have := ih (j + 1) υ (by omega) hn' (by rw [tbl_snoc]; exact j1) (f1.tr j2)
        rw [Int.natCast_succ] at this
        exact this
  refine r_Leads_ownToHooks_0 ?_
  simp only [oh.1, zrI, zrL, zrR, ne_eq, true_and, and_true, true_or, or_true, not_true_eq_false, not_false_eq_true, false_and, and_false, forall_const, true_implies, false_implies, implies_true, reduceCtorEq, Int.reduceEq, Int.reduceNe, Int.reduceLT, Int.reduceLE, Int.reduceNeg, Nat.reduceEqDiff, if_true, if_false, reduceIte, Int.reduceMul, Int.reduceAdd, Int.reduceSub]
  exact t_Sum_empty oh (fun τ w1 w2 => k6 401 0 τ (by omega) (fun i i0 i1 => by omega) w1 w2)
