/-! clash, of the class -/
theorem t_firstOfMany {Q : ZQ} {σ : ZM} {h g : Nat} {l : List Int} {w : LW} (o : zobj σ h 4) (p : LawP σ h w) (hw : w 0 = 3) (og : SumO σ g) (hp : Pt l) (hl : Lz σ g l) (q : ∀ r, ClashR w l r → Q (zi r) σ) : WP m_Law_firstOfMany 0 [zr h, zr g, zu] [] σ (0, 0) Q := by
  obtain ⟨e9, e10⟩ := p.2.2.2.1 hw
  have hbad : ∀ i, badP w l i ↔ (w 1 ≤ i ∨ w 2 < ga l i) := fun i => by unfold badP; simp [hw]
  have key : ∀ (k : Nat) (i : Int), 0 ≤ i → i + k = (l.length : Int) → (∀ j, 0 ≤ j → j < i → ¬ badP w l j) → WP m_Law_firstOfMany 2 [zr h, zr g, zi i] [] σ (0, 0) Q := by
    have h3 := hl.2.2.1
    intro k
    induction k with
    | zero =>
      intro i i0 hk hb
      refine r_Law_firstOfMany_2 ?_
      simp only [o, og.1, hl.1, e9, zrI, zrL, zrR, ne_eq, true_and, and_true, true_or, or_true, not_true_eq_false, not_false_eq_true, false_and, and_false, forall_const, true_implies, false_implies, implies_true, reduceCtorEq, Int.reduceEq, Int.reduceNe, Int.reduceLT, Int.reduceLE, Int.reduceNeg, Nat.reduceEqDiff, if_true, if_false, reduceIte, Int.reduceMul, Int.reduceAdd, Int.reduceSub]
      repeat' first | omega | exact Or.inl (by omega) | apply And.intro | refine fun (_ : _ ≤ _) => ?_ | refine fun (_ : _ < _) => ?_ | refine fun (_ : _ = _) => ?_ | refine fun (_ : ¬ (_ = _)) => ?_ | refine fun (_ : _ ∨ _) => ?_
      exact q _ (Or.inl ⟨rfl, fun j j0 j1 => hb j j0 (by omega)⟩)
    | succ k ih =>
      intro i i0 hk hb
      refine r_Law_firstOfMany_2 ?_
      simp only [o, og.1, hl.1, e9, zrI, zrL, zrR, ne_eq, true_and, and_true, true_or, or_true, not_true_eq_false, not_false_eq_true, false_and, and_false, forall_const, true_implies, false_implies, implies_true, reduceCtorEq, Int.reduceEq, Int.reduceNe, Int.reduceLT, Int.reduceLE, Int.reduceNeg, Nat.reduceEqDiff, if_true, if_false, reduceIte, Int.reduceMul, Int.reduceAdd, Int.reduceSub]
      repeat' first | omega | exact Or.inl (by omega) | apply And.intro | refine fun (_ : _ ≤ _) => ?_ | refine fun (_ : _ < _) => ?_ | refine fun (_ : _ = _) => ?_ | refine fun (_ : ¬ (_ = _)) => ?_ | refine fun (_ : _ ∨ _) => ?_
      · exact q _ (Or.inr ⟨i0, by omega, (hbad i).mpr (by omega), hb⟩)
      · refine t_Sum_at og hl ?_
        simp only [o, e10, zrI, zrL, zrR, ne_eq, true_and, and_true, true_or, or_true, not_true_eq_false, not_false_eq_true, false_and, and_false, forall_const, true_implies, false_implies, implies_true, reduceCtorEq, Int.reduceEq, Int.reduceNe, Int.reduceLT, Int.reduceLE, Int.reduceNeg, Nat.reduceEqDiff, if_true, if_false, reduceIte, Int.reduceMul, Int.reduceAdd, Int.reduceSub]
        repeat' first | omega | exact Or.inl (by omega) | apply And.intro | refine fun (_ : _ ≤ _) => ?_ | refine fun (_ : _ < _) => ?_ | refine fun (_ : _ = _) => ?_ | refine fun (_ : ¬ (_ = _)) => ?_ | refine fun (_ : _ ∨ _) => ?_
        · exact ih (i + 1) (by omega) (by omega) (fun j j0 j1 => by
            by_cases e : j = i
            · rw [e, hbad]; omega
            · exact hb j j0 (by omega))
        · exact q _ (Or.inr ⟨i0, by omega, (hbad i).mpr (by omega), hb⟩)
  exact r_Law_firstOfMany_0 (key l.length 0 (by omega) (by omega) (fun j j0 j1 => by omega))
theorem t_firstOfWrongGaps {Q : ZQ} {σ : ZM} {h g : Nat} {l : List Int} {w : LW} (o : zobj σ h 4) (p : LawP σ h w) (ok : lawOK w) (hw : w 0 = 2) (og : SumO σ g) (hp : Pt l) (hl : Lz σ g l) (q : ∀ r, ClashR w l r → Q (zi r) σ) : WP m_Law_firstOfWrongGaps 0 [zr h, zr g, zu, zu] [] σ (0, 0) Q := by
  obtain ⟨e6, e3, e7, e8⟩ := p.2.2.1 hw
  have hbad : ∀ i, badP w l i ↔ ((0 < i ∧ ga l (i - 1) - ga l i < gapN w (ga l (i - 1))) ∨ (i = (l.length : Int) - 1 ∧ ga l i < w 4)) := fun i => by unfold badP; simp [hw]
  have key : ∀ (k : Nat) (i : Int) (u : PV), 0 ≤ i → i + k = (l.length : Int) → (∀ j, 0 ≤ j → j < i → ¬ badP w l j) → WP m_Law_firstOfWrongGaps 2 [zr h, zr g, zi i, u] [] σ (0, 0) Q := by
    have h3 := hl.2.2.1
    intro k
    induction k with
    | zero =>
      intro i u i0 hk hb
      refine r_Law_firstOfWrongGaps_2 ?_
      simp only [o, og.1, hl.1, zrI, zrL, zrR, ne_eq, true_and, and_true, true_or, or_true, not_true_eq_false, not_false_eq_true, false_and, and_false, forall_const, true_implies, false_implies, implies_true, reduceCtorEq, Int.reduceEq, Int.reduceNe, Int.reduceLT, Int.reduceLE, Int.reduceNeg, Nat.reduceEqDiff, if_true, if_false, reduceIte, Int.reduceMul, Int.reduceAdd, Int.reduceSub]
      repeat' first | omega | exact Or.inl (by omega) | apply And.intro | refine fun (_ : _ ≤ _) => ?_ | refine fun (_ : _ < _) => ?_ | refine fun (_ : _ = _) => ?_ | refine fun (_ : ¬ (_ = _)) => ?_ | refine fun (_ : _ ∨ _) => ?_
      exact q _ (Or.inl ⟨rfl, fun j j0 j1 => hb j j0 (by omega)⟩)
    | succ k ih =>
      intro i u i0 hk hb
      have hr := hp.rng i
      have hr1 := hp.rng (i - 1)
      have hg := gapN_bd (w := w) (v := ga l (i - 1)) ok hw
      have good : ¬ badP w l i → ∀ u', WP m_Law_firstOfWrongGaps 2 [zr h, zr g, zi (i + 1), u'] [] σ (0, 0) Q := fun hn u' => ih (i + 1) u' (by omega) (by omega) (fun j j0 j1 => by
          by_cases e : j = i
          · rw [e]; exact hn
          · exact hb j j0 (by omega))
      have bad : badP w l i → Q (zi i) σ := fun hn => q _ (Or.inr ⟨i0, by omega, hn, hb⟩)
      refine r_Law_firstOfWrongGaps_2 ?_
      simp only [o, og.1, hl.1, zrI, zrL, zrR, ne_eq, true_and, and_true, true_or, or_true, not_true_eq_false, not_false_eq_true, false_and, and_false, forall_const, true_implies, false_implies, implies_true, reduceCtorEq, Int.reduceEq, Int.reduceNe, Int.reduceLT, Int.reduceLE, Int.reduceNeg, Nat.reduceEqDiff, if_true, if_false, reduceIte, Int.reduceMul, Int.reduceAdd, Int.reduceSub]
      repeat' first | omega | exact Or.inl (by omega) | apply And.intro | refine fun (_ : _ ≤ _) => ?_ | refine fun (_ : _ < _) => ?_ | refine fun (_ : _ = _) => ?_ | refine fun (_ : ¬ (_ = _)) => ?_ | refine fun (_ : _ ∨ _) => ?_
      · exact good (by rw [hbad]; omega) _
      · refine t_Sum_at og hl ?_
        simp only [o, e8, zrI, zrL, zrR, ne_eq, true_and, and_true, true_or, or_true, not_true_eq_false, not_false_eq_true, false_and, and_false, forall_const, true_implies, false_implies, implies_true, reduceCtorEq, Int.reduceEq, Int.reduceNe, Int.reduceLT, Int.reduceLE, Int.reduceNeg, Nat.reduceEqDiff, if_true, if_false, reduceIte, Int.reduceMul, Int.reduceAdd, Int.reduceSub]
        repeat' first | omega | exact Or.inl (by omega) | apply And.intro | refine fun (_ : _ ≤ _) => ?_ | refine fun (_ : _ < _) => ?_ | refine fun (_ : _ = _) => ?_ | refine fun (_ : ¬ (_ = _)) => ?_ | refine fun (_ : _ ∨ _) => ?_
        · exact good (by rw [hbad]; omega) _
        · exact bad (by rw [hbad]; omega)
      · refine t_Sum_at og hl ?_
        simp only [og.1, zrI, zrL, zrR, ne_eq, true_and, and_true, true_or, or_true, not_true_eq_false, not_false_eq_true, false_and, and_false, forall_const, true_implies, false_implies, implies_true, reduceCtorEq, Int.reduceEq, Int.reduceNe, Int.reduceLT, Int.reduceLE, Int.reduceNeg, Nat.reduceEqDiff, if_true, if_false, reduceIte, Int.reduceMul, Int.reduceAdd, Int.reduceSub]
        refine t_Sum_at og hl ?_
        simp only [og.1, zrI, zrL, zrR, ne_eq, true_and, and_true, true_or, or_true, not_true_eq_false, not_false_eq_true, false_and, and_false, forall_const, true_implies, false_implies, implies_true, reduceCtorEq, Int.reduceEq, Int.reduceNe, Int.reduceLT, Int.reduceLE, Int.reduceNeg, Nat.reduceEqDiff, if_true, if_false, reduceIte, Int.reduceMul, Int.reduceAdd, Int.reduceSub]
        repeat' first | omega | exact Or.inl (by omega) | apply And.intro | refine fun (_ : _ ≤ _) => ?_ | refine fun (_ : _ < _) => ?_ | refine fun (_ : _ = _) => ?_ | refine fun (_ : ¬ (_ = _)) => ?_ | refine fun (_ : _ ∨ _) => ?_
        refine t_Sum_at og hl ?_
        simp only [o, zrI, zrL, zrR, ne_eq, true_and, and_true, true_or, or_true, not_true_eq_false, not_false_eq_true, false_and, and_false, forall_const, true_implies, false_implies, implies_true, reduceCtorEq, Int.reduceEq, Int.reduceNe, Int.reduceLT, Int.reduceLE, Int.reduceNeg, Nat.reduceEqDiff, if_true, if_false, reduceIte, Int.reduceMul, Int.reduceAdd, Int.reduceSub]
        refine t_gapBehind o p ok hw hr1.1 (by omega) ?_
        simp only [o, og.1, hl.1, zrI, zrL, zrR, ne_eq, true_and, and_true, true_or, or_true, not_true_eq_false, not_false_eq_true, false_and, and_false, forall_const, true_implies, false_implies, implies_true, reduceCtorEq, Int.reduceEq, Int.reduceNe, Int.reduceLT, Int.reduceLE, Int.reduceNeg, Nat.reduceEqDiff, if_true, if_false, reduceIte, Int.reduceMul, Int.reduceAdd, Int.reduceSub]
        repeat' first | omega | exact Or.inl (by omega) | apply And.intro | refine fun (_ : _ ≤ _) => ?_ | refine fun (_ : _ < _) => ?_ | refine fun (_ : _ = _) => ?_ | refine fun (_ : ¬ (_ = _)) => ?_ | refine fun (_ : _ ∨ _) => ?_
        · exact good (by rw [hbad]; omega) _
        · refine t_Sum_at og hl ?_
          simp only [o, e8, zrI, zrL, zrR, ne_eq, true_and, and_true, true_or, or_true, not_true_eq_false, not_false_eq_true, false_and, and_false, forall_const, true_implies, false_implies, implies_true, reduceCtorEq, Int.reduceEq, Int.reduceNe, Int.reduceLT, Int.reduceLE, Int.reduceNeg, Nat.reduceEqDiff, if_true, if_false, reduceIte, Int.reduceMul, Int.reduceAdd, Int.reduceSub]
          repeat' first | omega | exact Or.inl (by omega) | apply And.intro | refine fun (_ : _ ≤ _) => ?_ | refine fun (_ : _ < _) => ?_ | refine fun (_ : _ = _) => ?_ | refine fun (_ : ¬ (_ = _)) => ?_ | refine fun (_ : _ ∨ _) => ?_
          · exact good (by rw [hbad]; omega) _
          · exact bad (by rw [hbad]; omega)
        · exact bad (by rw [hbad]; omega)
  exact r_Law_firstOfWrongGaps_0 (key l.length 0 _ (by omega) (by omega) (fun j j0 j1 => by omega))
theorem likeN_step {l : List Int} {i : Int} (i0 : 0 < i) : likeN l i.toNat = if ga l i = ga l (i - 1) then likeN l (i - 1).toNat + 1 else 1 := by
  obtain ⟨n, rfl⟩ : ∃ n : Nat, i = (n : Int) + 1 := ⟨(i - 1).toNat, by omega⟩
  rw [show ((n : Int) + 1).toNat = n + 1 by omega, show ((n : Int) + 1 - 1).toNat = n by omega, show (n : Int) + 1 - 1 = n by omega]
  rfl
theorem t_firstOfWrongParts {Q : ZQ} {σ : ZM} {h g : Nat} {l : List Int} {w : LW} (o : zobj σ h 4) (p : LawP σ h w) (ok : lawOK w) (hw : w 0 = 1) (og : SumO σ g) (hp : Pt l) (hl : Lz σ g l) (q : ∀ r, ClashR w l r → Q (zi r) σ) : WP m_Law_firstOfWrongParts 0 [zr h, zr g, zu, zu] [] σ (0, 0) Q := by
  obtain ⟨e3, e4, e5⟩ := p.2.1 hw
  have hbad : ∀ i, badP w l i ↔ (¬ alP w (ga l i) ∨ (0 < w 3 ∧ w 3 < likeN l i.toNat)) := fun i => by unfold badP; simp [hw]
  have key : ∀ (k : Nat) (i x : Int), 0 ≤ i → i + k = (l.length : Int) → (0 < i → x = likeN l (i - 1).toNat) → (∀ j, 0 ≤ j → j < i → ¬ badP w l j) → WP m_Law_firstOfWrongParts 4 [zr h, zr g, zi x, zi i] [] σ (0, 0) Q := by
    have h3 := hl.2.2.1
    intro k
    induction k with
    | zero =>
      intro i x i0 hk hx hb
      refine r_Law_firstOfWrongParts_4 ?_
      simp only [o, og.1, hl.1, zrI, zrL, zrR, ne_eq, true_and, and_true, true_or, or_true, not_true_eq_false, not_false_eq_true, false_and, and_false, forall_const, true_implies, false_implies, implies_true, reduceCtorEq, Int.reduceEq, Int.reduceNe, Int.reduceLT, Int.reduceLE, Int.reduceNeg, Nat.reduceEqDiff, if_true, if_false, reduceIte, Int.reduceMul, Int.reduceAdd, Int.reduceSub]
      repeat' first | omega | exact Or.inl (by omega) | apply And.intro | refine fun (_ : _ ≤ _) => ?_ | refine fun (_ : _ < _) => ?_ | refine fun (_ : _ = _) => ?_ | refine fun (_ : ¬ (_ = _)) => ?_ | refine fun (_ : _ ∨ _) => ?_
      exact q _ (Or.inl ⟨rfl, fun j j0 j1 => hb j j0 (by omega)⟩)
    | succ k ih =>
      intro i x i0 hk hx hb
      have hr := hp.rng i
      have bad : badP w l i → Q (zi i) σ := fun hn => q _ (Or.inr ⟨i0, by omega, hn, hb⟩)
      have fin : ∀ y : Int, y = likeN l i.toNat → WP m_Law_hasRest 0 [zr h, zi (ga l i)] [] σ (0, 0) (fun r4 σ5 => zrI r4 (fun y6 => ((y6 = 0 → Q (zi i) σ5) ∧ (y6 ≠ 0 → (zobj σ5 h 4 ∧ (((zI σ5 h 5) ≤ 0 → ((-2147483648 ≤ (i + 1 : Int) ∧ (i + 1 : Int) ≤ 2147483647) ∧ WP m_Law_firstOfWrongParts 4 [zr h, zr g, zi y, zi (i + 1)] [] σ5 (0, 0) Q)) ∧ (0 < (zI σ5 h 5) → (zobj σ5 h 4 ∧ ((y ≤ (zI σ5 h 5) → ((-2147483648 ≤ (i + 1 : Int) ∧ (i + 1 : Int) ≤ 2147483647) ∧ WP m_Law_firstOfWrongParts 4 [zr h, zr g, zi y, zi (i + 1)] [] σ5 (0, 0) Q)) ∧ ((zI σ5 h 5) < y → Q (zi i) σ5)))))))))) := by
        intro y hy
        have good : ¬ badP w l i → WP m_Law_firstOfWrongParts 4 [zr h, zr g, zi y, zi (i + 1)] [] σ (0, 0) Q := fun hn => ih (i + 1) y (by omega) (by omega) (fun _ => by rw [show i + 1 - 1 = i by omega]; exact hy) (fun j j0 j1 => by
            by_cases e : j = i
            · rw [e]; exact hn
            · exact hb j j0 (by omega))
        refine t_hasRest o p ok hw hr.1 (by omega) (fun a => ?_) (fun a => ?_)
        · simp only [o, e5, zrI, zrL, zrR, ne_eq, true_and, and_true, true_or, or_true, not_true_eq_false, not_false_eq_true, false_and, and_false, forall_const, true_implies, false_implies, implies_true, reduceCtorEq, Int.reduceEq, Int.reduceNe, Int.reduceLT, Int.reduceLE, Int.reduceNeg, Nat.reduceEqDiff, if_true, if_false, reduceIte, Int.reduceMul, Int.reduceAdd, Int.reduceSub]
          repeat' first | omega | exact Or.inl (by omega) | apply And.intro | refine fun (_ : _ ≤ _) => ?_ | refine fun (_ : _ < _) => ?_ | refine fun (_ : _ = _) => ?_ | refine fun (_ : ¬ (_ = _)) => ?_ | refine fun (_ : _ ∨ _) => ?_
          · exact good (by rw [hbad]; rintro (c | c); exact c a; omega)
          · exact good (by rw [hbad]; rintro (c | c); exact c a; omega)
          · exact bad (by rw [hbad]; right; omega)
        · simp only [zrI, zrL, zrR, ne_eq, true_and, and_true, true_or, or_true, not_true_eq_false, not_false_eq_true, false_and, and_false, forall_const, true_implies, false_implies, implies_true, reduceCtorEq, Int.reduceEq, Int.reduceNe, Int.reduceLT, Int.reduceLE, Int.reduceNeg, Nat.reduceEqDiff, if_true, if_false, reduceIte, Int.reduceMul, Int.reduceAdd, Int.reduceSub]
          exact bad ((hbad i).mpr (Or.inl a))
      have hlk := likeN_bd l (i - 1).toNat
      refine r_Law_firstOfWrongParts_4 ?_
      simp only [o, og.1, hl.1]
      refine ⟨trivial, fun c => by omega, fun c => ⟨fun c2 => ⟨trivial, t_Sum_at og hl ⟨o, ?_⟩⟩, fun c2 => ⟨trivial, t_Sum_at og hl ⟨by omega, og.1, t_Sum_at og hl ⟨fun c3 => ⟨og.1, t_Sum_at og hl ⟨o, ?_⟩⟩, fun c3 => ⟨by omega, og.1, t_Sum_at og hl ⟨o, ?_⟩⟩⟩⟩⟩⟩⟩
      · exact fin 1 (by rw [show i.toNat = 0 by omega]; rfl)
      · exact fin 1 (by rw [likeN_step c2, if_neg c3])
      · exact fin (x + 1) (by rw [likeN_step c2, if_pos c3, hx c2])
  exact r_Law_firstOfWrongParts_0 (key l.length 0 0 (by omega) (by omega) (fun c => by omega) (fun j j0 j1 => by omega))
theorem t_firstClash {Q : ZQ} {σ : ZM} {h g : Nat} {l : List Int} {w : LW} (hS : Shp σ) (hh : isL h) (hg : isS g) (hg2 : g ≠ 135) (p : LawP σ h w) (ok : lawOK w) (hp : Pt l) (hl : Lz σ g l) (q : ∀ r σ', ClashR w l r → Fr (two 135) σ σ' → Q (zi r) σ') : WP m_PP_firstClash 0 [zr 2, zr h, zr g] [] σ (0, 0) Q := by
  obtain ⟨o, o2, o3⟩ := hS.lawO hh
  have og := hS.sumO hg
  have h135 : isS 135 := by unfold isS; omega
  refine r_PP_firstClash_0 ?_
  simp only [hS, o, p.1, (hS.sumO h135).1, zrI, zrL, zrR, Shp_wI, Shp_wJ, zR_wI, zR_wJ, zJ_wI, zI_wJ, zobj_wI, zobj_wJ, zarr_wI, zarr_wJ, zS_wI, zS_wJ, o_2, a_3, a_4, a_5, o_10, a_11, a_12, o_137, o_138, a_139, o_140, a_141, o_142, a_143, o_146, a_147, a_148, a_149, o_152, a_153, o_154, a_157, o_158, a_159, r_2_0, r_2_1, r_2_2, r_2_3, r_2_4, r_2_5, r_2_6, r_2_7, r_2_8, r_2_9, r_2_10, r_10_0, r_10_1, r_137_0, r_137_1, r_137_2, r_138_0, r_140_0, r_142_0, r_146_0, r_146_1, r_146_2, r_146_3, r_152_0, r_154_0, r_154_1, r_158_0, zrI, zrL, zrR, ne_eq, true_and, and_true, true_or, or_true, not_true_eq_false, not_false_eq_true, false_and, and_false, forall_const, true_implies, false_implies, implies_true, reduceCtorEq, Int.reduceEq, Int.reduceNe, Int.reduceLT, Int.reduceLE, Int.reduceNeg, Nat.reduceEqDiff, if_true, if_false, reduceIte, Int.reduceMul, Int.reduceAdd, Int.reduceSub]
  have main : ∀ τ : ZM, Fr (two 135) σ τ → (w 0 = 4 → Lz τ 135 (cj l)) → WP m_Law_firstClash 0 [zr h, zr g, zr 135] [] τ (0, 0) (fun r1 σ2 => zrI r1 (fun y3 => Q (zi y3) σ2)) := by
    intro τ f h4
    have hT := f.shp hS
    obtain ⟨oT, oT2, oT3⟩ := hT.lawO hh
    have ogT := hT.sumO hg
    have hne : g ≠ 135 ∧ g ≠ 136 ∧ h ≠ 135 ∧ h ≠ 136 ∧ g + 1 ≠ 135 := by
      unfold isL at hh
      unfold isS at hg
      omega
    have pT : LawP τ h w := p.same (fun j _ => (f.2.2.2 h (by omega)).1 j)
    have lT : Lz τ g l := f.lz (by omega) (by omega) hl
    have fin : ∀ r, ClashR w l r → Q (zi r) τ := fun r hr => q r τ hr f
    refine r_Law_firstClash_0 ?_
    simp only [oT, pT.1, ogT.1, zrI, zrL, zrR, ne_eq, true_and, and_true, true_or, or_true, not_true_eq_false, not_false_eq_true, false_and, and_false, forall_const, true_implies, false_implies, implies_true, reduceCtorEq, Int.reduceEq, Int.reduceNe, Int.reduceLT, Int.reduceLE, Int.reduceNeg, Nat.reduceEqDiff, if_true, if_false, reduceIte, Int.reduceMul, Int.reduceAdd, Int.reduceSub]
    refine ⟨fun e => fin _ (Or.inl ⟨rfl, fun i _ _ => by unfold badP; omega⟩), fun e => t_firstOfWrongParts oT pT ok e ogT hp lT fin, fun e => t_firstOfWrongGaps oT pT ok e ogT hp lT fin, fun e => t_firstOfMany oT pT e ogT hp lT fin, fun e => t_firstNotAlike ogT (hT.sumO h135) lT (h4 e) (fun r hr => fin r ?_), fun e => ?_⟩
    · have hb : ∀ i, badP w l i ↔ colN l i ≠ ga l i := fun i => by unfold badP; simp [e]
      rcases hr with ⟨r1, r2⟩ | ⟨r1, r2, r3, r4⟩
      · refine Or.inl ⟨r1, fun i i0 i1 => ?_⟩
        rw [hb]
        have := r2 i i0 i1
        rw [ga_cj hp i0] at this
        omega
      · refine Or.inr ⟨r1, r2, ?_, fun i i0 i1 => ?_⟩
        · rw [hb]
          rw [ga_cj hp r1] at r3
          omega
        · rw [hb]
          have := r4 i i0 i1
          rw [ga_cj hp i0] at this
          omega
    · have hb : ∀ i, badP w l i ↔ hasHk l (w 1) i := fun i => by unfold badP; simp [e]
      rw [pT.2.2.2.2 e]
      refine t_Sum_firstRowWithHook ogT hp lT (fun r hr => fin r ?_)
      rcases hr with ⟨r1, r2⟩ | ⟨r1, r2, r3, r4⟩
      · exact Or.inl ⟨r1, fun i i0 i1 => by rw [hb]; exact r2 i i0 i1⟩
      · exact Or.inr ⟨r1, r2, by rw [hb]; exact r3, fun i i0 i1 => by rw [hb]; exact r4 i i0 i1⟩
  refine ⟨fun e => main σ Fr.rf (fun c => absurd c e), fun e => ?_⟩
  refine t_Sum_turn (isS_apart h135 hg (fun c => hg2 c.symm)) hp (hS.sumO h135) og hl (fun τ k1 k2 => ?_)
  have hT := k2.shp hS
  obtain ⟨oT, oT2, oT3⟩ := hT.lawO hh
  simp only [hT, oT, zrI, zrL, zrR, Shp_wI, Shp_wJ, zR_wI, zR_wJ, zJ_wI, zI_wJ, zobj_wI, zobj_wJ, zarr_wI, zarr_wJ, zS_wI, zS_wJ, o_2, a_3, a_4, a_5, o_10, a_11, a_12, o_137, o_138, a_139, o_140, a_141, o_142, a_143, o_146, a_147, a_148, a_149, o_152, a_153, o_154, a_157, o_158, a_159, r_2_0, r_2_1, r_2_2, r_2_3, r_2_4, r_2_5, r_2_6, r_2_7, r_2_8, r_2_9, r_2_10, r_10_0, r_10_1, r_137_0, r_137_1, r_137_2, r_138_0, r_140_0, r_142_0, r_146_0, r_146_1, r_146_2, r_146_3, r_152_0, r_154_0, r_154_1, r_158_0, zrI, zrL, zrR, ne_eq, true_and, and_true, true_or, or_true, not_true_eq_false, not_false_eq_true, false_and, and_false, forall_const, true_implies, false_implies, implies_true, reduceCtorEq, Int.reduceEq, Int.reduceNe, Int.reduceLT, Int.reduceLE, Int.reduceNeg, Nat.reduceEqDiff, if_true, if_false, reduceIte, Int.reduceMul, Int.reduceAdd, Int.reduceSub]
  exact main τ k2 (fun _ => k1)
/-- the laws -/
def LawsP (σ : ZM) (L : Int → LW) : Prop := ∀ l, 0 ≤ l → l ≤ 7 → lawOK (L l) ∧ LawP σ (176 + 2 * l.toNat) (L l)
theorem Fz.lawsP {P : Nat → Int → Prop} {σ σ' : ZM} (h : Fz P σ σ') {L : Int → LW} (hP : ∀ a j, 176 ≤ a → a < 192 → 2 ≤ j → ¬ P a j) (p : LawsP σ L) : LawsP σ' L := fun l l0 l1 =>
  ⟨(p l l0 l1).1, (p l l0 l1).2.same (fun j j2 => h.i (hP _ j (by omega) (by omega) j2))⟩
theorem t_clash {Q : ZQ} {σ : ZM} {N : List (Int × List Int)} {S : Int → List Int} {L : Int → LW} {l s : Int} (h : AI σ S N) (hL : LawsP σ L)
    (q0 : (l < 0 ∨ 7 < l ∨ s < 0 ∨ 7 < s) → Q (zi (-2)) σ) (q1 : 0 ≤ l → l ≤ 7 → 0 ≤ s → s ≤ 7 → ∀ r σ', ClashR (L l) (S s) r → Fr (two 135) σ σ' → Q (zi r) σ') : WP m_PP_clash 0 [zr 2, zi l, zi s] [] σ (0, 0) Q := by
  have hS := h.1
  refine r_PP_clash_0 (t_isLaw (fun l0 l1 => ?_) (fun c => ?_))
  · simp only [hS, zrI, zrL, zrR, Shp_wI, Shp_wJ, zR_wI, zR_wJ, zJ_wI, zI_wJ, zobj_wI, zobj_wJ, zarr_wI, zarr_wJ, zS_wI, zS_wJ, o_2, a_3, a_4, a_5, o_10, a_11, a_12, o_137, o_138, a_139, o_140, a_141, o_142, a_143, o_146, a_147, a_148, a_149, o_152, a_153, o_154, a_157, o_158, a_159, r_2_0, r_2_1, r_2_2, r_2_3, r_2_4, r_2_5, r_2_6, r_2_7, r_2_8, r_2_9, r_2_10, r_10_0, r_10_1, r_137_0, r_137_1, r_137_2, r_138_0, r_140_0, r_142_0, r_146_0, r_146_1, r_146_2, r_146_3, r_152_0, r_154_0, r_154_1, r_158_0, zrI, zrL, zrR, ne_eq, true_and, and_true, true_or, or_true, not_true_eq_false, not_false_eq_true, false_and, and_false, forall_const, true_implies, false_implies, implies_true, reduceCtorEq, Int.reduceEq, Int.reduceNe, Int.reduceLT, Int.reduceLE, Int.reduceNeg, Nat.reduceEqDiff, if_true, if_false, reduceIte, Int.reduceMul, Int.reduceAdd, Int.reduceSub]
    refine t_isSheet (fun s0 s1 => ?_) (fun c => ?_)
    · simp only [hS, hS.r4 l0 l1, hS.r3 s0 s1, zrI, zrL, zrR, Shp_wI, Shp_wJ, zR_wI, zR_wJ, zJ_wI, zI_wJ, zobj_wI, zobj_wJ, zarr_wI, zarr_wJ, zS_wI, zS_wJ, o_2, a_3, a_4, a_5, o_10, a_11, a_12, o_137, o_138, a_139, o_140, a_141, o_142, a_143, o_146, a_147, a_148, a_149, o_152, a_153, o_154, a_157, o_158, a_159, r_2_0, r_2_1, r_2_2, r_2_3, r_2_4, r_2_5, r_2_6, r_2_7, r_2_8, r_2_9, r_2_10, r_10_0, r_10_1, r_137_0, r_137_1, r_137_2, r_138_0, r_140_0, r_142_0, r_146_0, r_146_1, r_146_2, r_146_3, r_152_0, r_154_0, r_154_1, r_158_0, zrI, zrL, zrR, ne_eq, true_and, and_true, true_or, or_true, not_true_eq_false, not_false_eq_true, false_and, and_false, forall_const, true_implies, false_implies, implies_true, reduceCtorEq, Int.reduceEq, Int.reduceNe, Int.reduceLT, Int.reduceLE, Int.reduceNeg, Nat.reduceEqDiff, if_true, if_false, reduceIte, Int.reduceMul, Int.reduceAdd, Int.reduceSub]
      repeat' first | omega | exact Or.inl (by omega) | apply And.intro | refine fun (_ : _ ≤ _) => ?_ | refine fun (_ : _ < _) => ?_ | refine fun (_ : _ = _) => ?_ | refine fun (_ : ¬ (_ = _)) => ?_ | refine fun (_ : _ ∨ _) => ?_
      obtain ⟨hp, hl⟩ := h.2.2 s s0 s1
      exact t_firstClash hS (isL_law l0 l1) (isS_sheet s0 s1) (by omega) (hL l l0 l1).2 (hL l l0 l1).1 hp hl (fun r σ' a b => q1 l0 l1 s0 s1 r σ' a b)
    · simp only [zrI, zrL, zrR, ne_eq, true_and, and_true, true_or, or_true, not_true_eq_false, not_false_eq_true, false_and, and_false, forall_const, true_implies, false_implies, implies_true, reduceCtorEq, Int.reduceEq, Int.reduceNe, Int.reduceLT, Int.reduceLE, Int.reduceNeg, Nat.reduceEqDiff, if_true, if_false, reduceIte, Int.reduceMul, Int.reduceAdd, Int.reduceSub]
      exact q0 (by omega)
  · simp only [zrI, zrL, zrR, ne_eq, true_and, and_true, true_or, or_true, not_true_eq_false, not_false_eq_true, false_and, and_false, forall_const, true_implies, false_implies, implies_true, reduceCtorEq, Int.reduceEq, Int.reduceNe, Int.reduceLT, Int.reduceLE, Int.reduceNeg, Nat.reduceEqDiff, if_true, if_false, reduceIte, Int.reduceMul, Int.reduceAdd, Int.reduceSub]
    exact q0 (by omega)
theorem t_told {Q : ZQ} {σ : ZM} {N : List (Int × List Int)} {S : Int → List Int} {L : Int → LW} {x : Int} (h : AI σ S N) (hL : LawsP σ L) (q0 : (x < 0 ∨ 8 < x) → Q (zi (-1)) σ) (q8 : x = 8 → Q (zi (N.length : Int)) σ) (q1 : 0 ≤ x → x ≤ 7 → Q (zi (L x 0)) σ) : WP m_PP_told 0 [zr 2, zi x] [] σ (0, 0) Q := by
  have hS := h.1
  have hh : zI σ 10 3 = (N.length : Int) := by
    obtain ⟨nw, g1, g2, g3, g4, g5, g6⟩ := h.2.1
    exact g4
  refine r_PP_told_0 (t_isLaw (fun l0 l1 => ?_) (fun c => ?_))
  · simp only [hS, hS.r4 l0 l1, (hS.lawO (isL_law l0 l1)).1, (hL x l0 l1).2.1, zrI, zrL, zrR, Shp_wI, Shp_wJ, zR_wI, zR_wJ, zJ_wI, zI_wJ, zobj_wI, zobj_wJ, zarr_wI, zarr_wJ, zS_wI, zS_wJ, o_2, a_3, a_4, a_5, o_10, a_11, a_12, o_137, o_138, a_139, o_140, a_141, o_142, a_143, o_146, a_147, a_148, a_149, o_152, a_153, o_154, a_157, o_158, a_159, r_2_0, r_2_1, r_2_2, r_2_3, r_2_4, r_2_5, r_2_6, r_2_7, r_2_8, r_2_9, r_2_10, r_10_0, r_10_1, r_137_0, r_137_1, r_137_2, r_138_0, r_140_0, r_142_0, r_146_0, r_146_1, r_146_2, r_146_3, r_152_0, r_154_0, r_154_1, r_158_0, zrI, zrL, zrR, ne_eq, true_and, and_true, true_or, or_true, not_true_eq_false, not_false_eq_true, false_and, and_false, forall_const, true_implies, false_implies, implies_true, reduceCtorEq, Int.reduceEq, Int.reduceNe, Int.reduceLT, Int.reduceLE, Int.reduceNeg, Nat.reduceEqDiff, if_true, if_false, reduceIte, Int.reduceMul, Int.reduceAdd, Int.reduceSub]
    repeat' first | omega | exact Or.inl (by omega) | apply And.intro | refine fun (_ : _ ≤ _) => ?_ | refine fun (_ : _ < _) => ?_ | refine fun (_ : _ = _) => ?_ | refine fun (_ : ¬ (_ = _)) => ?_ | refine fun (_ : _ ∨ _) => ?_
    exact q1 l0 l1
  · simp only [hS, hh, zrI, zrL, zrR, Shp_wI, Shp_wJ, zR_wI, zR_wJ, zJ_wI, zI_wJ, zobj_wI, zobj_wJ, zarr_wI, zarr_wJ, zS_wI, zS_wJ, o_2, a_3, a_4, a_5, o_10, a_11, a_12, o_137, o_138, a_139, o_140, a_141, o_142, a_143, o_146, a_147, a_148, a_149, o_152, a_153, o_154, a_157, o_158, a_159, r_2_0, r_2_1, r_2_2, r_2_3, r_2_4, r_2_5, r_2_6, r_2_7, r_2_8, r_2_9, r_2_10, r_10_0, r_10_1, r_137_0, r_137_1, r_137_2, r_138_0, r_140_0, r_142_0, r_146_0, r_146_1, r_146_2, r_146_3, r_152_0, r_154_0, r_154_1, r_158_0, zrI, zrL, zrR, ne_eq, true_and, and_true, true_or, or_true, not_true_eq_false, not_false_eq_true, false_and, and_false, forall_const, true_implies, false_implies, implies_true, reduceCtorEq, Int.reduceEq, Int.reduceNe, Int.reduceLT, Int.reduceLE, Int.reduceNeg, Nat.reduceEqDiff, if_true, if_false, reduceIte, Int.reduceMul, Int.reduceAdd, Int.reduceSub]
    repeat' first | omega | exact Or.inl (by omega) | apply And.intro | refine fun (_ : _ ≤ _) => ?_ | refine fun (_ : _ < _) => ?_ | refine fun (_ : _ = _) => ?_ | refine fun (_ : ¬ (_ = _)) => ?_ | refine fun (_ : _ ∨ _) => ?_
    exact q0 (by omega)
