/-! Counter, of the class: counts -/
def cntS (w : LW) : SQ := if w 0 ≤ 2 then fun n => Int64.ofNat (tabN w n n) else if w 0 = 3 then fun n => Int64.ofNat (BB (w 1).toNat (w 2).toNat n) else if w 0 = 4 then facX 2 1 (-1) (facX 4 2 1 oneS) else facX (w 1).toNat 0 (w 1) (facX 1 0 (-1) oneS)
/-- the counts that are known of a law -/
def LawK (σ : ZM) (h : Nat) (w : LW) : Prop := -1 ≤ zI σ h 1 ∧ zI σ h 1 ≤ (if w 0 = 3 then 60 else 400) ∧ ∀ n : Nat, (n : Int) ≤ zI σ h 1 → zJ σ (h + 1) (n : Int) = cntS w n
def LawsK (σ : ZM) (L : Int → LW) : Prop := ∀ l, 0 ≤ l → l ≤ 7 → LawK σ (176 + 2 * l.toNat) (L l)
theorem Fz.lawK {P : Nat → Int → Prop} {σ σ' : ZM} (f : Fz P σ σ') {h : Nat} {w : LW} (h1 : ¬ P h 1) (h2 : ∀ j, ¬ P (h + 1) j) (k : LawK σ h w) : LawK σ' h w := by
  obtain ⟨k1, k2, k3⟩ := k
  unfold LawK
  rw [f.i h1]
  exact ⟨k1, k2, fun n hn => (f.j (h2 _)).trans (k3 n hn)⟩
theorem Fz.lawsK {P : Nat → Int → Prop} {σ σ' : ZM} (f : Fz P σ σ') {L : Int → LW} (hP : ∀ a j, 176 ≤ a → a < 192 → (a % 2 = 0 → j = 1) → ¬ P a j) (k : LawsK σ L) : LawsK σ' L := fun l l0 l1 => f.lawK (hP _ _ (by omega) (by omega) (fun _ => rfl)) (fun j => hP _ j (by omega) (by omega) (fun w => by omega)) (k l l0 l1)
theorem Fz.lawsP2 {P : Nat → Int → Prop} {σ σ' : ZM} (h : Fz P σ σ') {L : Int → LW} (hP : ∀ a j, 176 ≤ a → a < 192 → a % 2 = 0 → 2 ≤ j → ¬ P a j) (p : LawsP σ L) : LawsP σ' L := fun l l0 l1 =>
  ⟨(p l l0 l1).1, (p l l0 l1).2.same (fun j j2 => h.i (hP _ j (by omega) (by omega) (by omega) j2))⟩
theorem Fz.tabI {P : Nat → Int → Prop} {σ σ' : ZM} (f : Fz P σ σ') {L : Int → LW} (h1 : ∀ j, ¬ P 138 j) (h2 : ∀ j, ¬ P 139 j) (t : TabI σ L) : TabI σ' L := by
  unfold TabI
  rw [f.i (h1 2), f.r (h1 1)]
  obtain ⟨t1, t2, t3⟩ := t
  refine ⟨t1, t2, ?_⟩
  rcases t3 with e | ⟨l, a, b, c, d, e⟩
  · exact Or.inl e
  · exact Or.inr ⟨l, a, b, c, d, e.step (fun j => f.j (h2 j))⟩
theorem Fz.boxI {P : Nat → Int → Prop} {σ σ' : ZM} (f : Fz P σ σ') (h1 : ∀ j, ¬ P 140 j) (h2 : ∀ j, ¬ P 141 j) (t : BoxI σ) : BoxI σ' := by
  unfold BoxI
  rw [f.i (h1 1)]
  exact ⟨t.1, t.2.1, t.2.2.same (fun j => f.i (h2 j))⟩
/-- laws, their counts, table, box -/
def CoI (σ : ZM) (L : Int → LW) : Prop := LawsP σ L ∧ LawsK σ L ∧ TabI σ L ∧ BoxI σ
abbrev cof (a : Nat) (j : Int) : Prop := a = 139 ∨ a = 141 ∨ a = 143 ∨ (a = 138 ∧ (j = 1 ∨ j = 2)) ∨ (a = 140 ∧ j = 1) ∨ (a = 137 ∧ 3 ≤ j) ∨ (177 ≤ a ∧ a < 192 ∧ a % 2 = 1) ∨ (176 ≤ a ∧ a < 192 ∧ a % 2 = 0 ∧ j = 1)
theorem Fz.coI {P : Nat → Int → Prop} {σ σ' : ZM} (f : Fz P σ σ') {L : Int → LW} (hP : ∀ a j, (138 ≤ a ∧ a ≤ 141) ∨ (176 ≤ a ∧ a < 192) → ¬ P a j) (c : CoI σ L) : CoI σ' L :=
  ⟨f.lawsP (fun a j w1 w2 _ => hP a j (by omega)) c.1, f.lawsK (fun a j w1 w2 _ => hP a j (by omega)) c.2.1, f.tabI (fun j => hP _ j (by omega)) (fun j => hP _ j (by omega)) c.2.2.1, f.boxI (fun j => hP _ j (by omega)) (fun j => hP _ j (by omega)) c.2.2.2⟩
/-- a law's row and what is known of it has changed -/
theorem CoI.learned {σ σ' : ZM} {L : Int → LW} {l : Int} (c : CoI σ L) (l0 : 0 ≤ l) (l1 : l ≤ 7) (f : Fz (fun a j => (a = 176 + 2 * l.toNat ∧ j = 1) ∨ a = 177 + 2 * l.toNat) σ σ') (k : LawK σ' (176 + 2 * l.toNat) (L l)) : CoI σ' L :=
  ⟨f.lawsP2 (fun a j w1 w2 w3 w4 => by omega) c.1, fun m m0 m1 => by
    by_cases e : m = l
    · rw [e]; exact k
    · exact f.lawK (by omega) (fun j => by omega) (c.2.1 m m0 m1), f.tabI (fun j => by omega) (fun j => by omega) c.2.2.1, f.boxI (fun j => by omega) (fun j => by omega) c.2.2.2⟩
theorem t_learn {Q : ZQ} {σ : ZM} {L : Int → LW} {l n : Int} (hS : Shp σ) (c : CoI σ L) (l0 : 0 ≤ l) (l1 : l ≤ 7) (n0 : 0 ≤ n) (n1 : n ≤ (if L l 0 = 3 then 60 else 400)) (hk : zI σ (176 + 2 * l.toNat) 1 < n) (q : ∀ σ', CoI σ' L → n ≤ zI σ' (176 + 2 * l.toNat) 1 → Fz cof σ σ' → Q zu σ') : WP m_Counter_learn 0 [zr 137, zr (176 + 2 * l.toNat), zi n, zu] [] σ (0, 0) Q := by
  obtain ⟨cP, cK, cT, cB⟩ := id c
  obtain ⟨ok, p⟩ := cP l l0 l1
  obtain ⟨k1, k2, k3⟩ := cK l l0 l1
  have hl := isL_law l0 l1
  obtain ⟨o, o2, o3⟩ := hS.lawO hl
  have hw0 : 0 ≤ L l 0 ∧ L l 0 ≤ 5 := by unfold lawOK canB at ok; omega
  refine r_Counter_learn_0 ?_
  simp only [hS, o, p.1, zrI, zrL, zrR, Shp_wI, Shp_wJ, zR_wI, zR_wJ, zJ_wI, zI_wJ, zobj_wI, zobj_wJ, zarr_wI, zarr_wJ, zS_wI, zS_wJ, o_2, a_3, a_4, a_5, o_10, a_11, a_12, o_137, o_138, a_139, o_140, a_141, o_142, a_143, o_146, a_147, a_148, a_149, o_152, a_153, o_154, a_157, o_158, a_159, r_2_0, r_2_1, r_2_2, r_2_3, r_2_4, r_2_5, r_2_6, r_2_7, r_2_8, r_2_9, r_2_10, r_10_0, r_10_1, r_137_0, r_137_1, r_137_2, r_138_0, r_140_0, r_142_0, r_146_0, r_146_1, r_146_2, r_146_3, r_152_0, r_154_0, r_154_1, r_158_0, zrI, zrL, zrR, ne_eq, true_and, and_true, true_or, or_true, not_true_eq_false, not_false_eq_true, false_and, and_false, forall_const, true_implies, false_implies, implies_true, reduceCtorEq, Int.reduceEq, Int.reduceNe, Int.reduceLT, Int.reduceLE, Int.reduceNeg, Nat.reduceEqDiff, if_true, if_false, reduceIte, Int.reduceMul, Int.reduceAdd, Int.reduceSub]
  refine ⟨fun e => ?_, fun e => ?_, fun e => ?_, fun e => ?_⟩
  · have e2 : L l 0 ≤ 2 := by omega
    rw [if_neg (by omega)] at n1 k2
    refine t_Table_prepare hS cP cT l0 l1 e2 n0 n1 (fun τ w1 w2 w3 => ?_)
    obtain ⟨f, f1, f2⟩ := w2
    have hT := w3.shp hS
    have cT' : CoI τ L := ⟨w3.lawsP (fun a j _ _ _ => by omega) cP, w3.lawsK (fun a j _ _ _ => by omega) cK, w1, w3.boxI (fun j => by omega) (fun j => by omega) cB⟩
    have ek : zI τ (176 + 2 * l.toNat) 1 = zI σ (176 + 2 * l.toNat) 1 := w3.i (by omega)
    have key : ∀ (m : Nat) (x : Nat) (υ : ZM), (x : Int) + m = n + 1 → (∀ i : Nat, i < x → zJ υ (177 + 2 * l.toNat) (i : Int) = cntS (L l) i) → Fz (fun a j => (a = 176 + 2 * l.toNat ∧ j = 1) ∨ a = 177 + 2 * l.toNat) τ υ → WP m_Counter_learn 120 [zr 137, zr (176 + 2 * l.toNat), zi n, zi (x : Int)] [] υ (0, 0) Q := by
      intro m
      induction m with
      | zero =>
        intro x υ hx hv g
        have hU := g.shp hT
        refine r_Counter_learn_120 ?_
        simp only [hU, (hU.lawO hl).1, zrI, zrL, zrR, Shp_wI, Shp_wJ, zR_wI, zR_wJ, zJ_wI, zI_wJ, zobj_wI, zobj_wJ, zarr_wI, zarr_wJ, zS_wI, zS_wJ, o_2, a_3, a_4, a_5, o_10, a_11, a_12, o_137, o_138, a_139, o_140, a_141, o_142, a_143, o_146, a_147, a_148, a_149, o_152, a_153, o_154, a_157, o_158, a_159, r_2_0, r_2_1, r_2_2, r_2_3, r_2_4, r_2_5, r_2_6, r_2_7, r_2_8, r_2_9, r_2_10, r_10_0, r_10_1, r_137_0, r_137_1, r_137_2, r_138_0, r_140_0, r_142_0, r_146_0, r_146_1, r_146_2, r_146_3, r_152_0, r_154_0, r_154_1, r_158_0, zrI, zrL, zrR, ne_eq, true_and, and_true, true_or, or_true, not_true_eq_false, not_false_eq_true, false_and, and_false, forall_const, true_implies, false_implies, implies_true, reduceCtorEq, Int.reduceEq, Int.reduceNe, Int.reduceLT, Int.reduceLE, Int.reduceNeg, Nat.reduceEqDiff, if_true, if_false, reduceIte, Int.reduceMul, Int.reduceAdd, Int.reduceSub]
        refine ⟨fun _ => ?_, fun c => by omega⟩
        have g2 := g.tr (Fz.wI (σ := υ) (a := 176 + 2 * l.toNat) (i := 1) (x := n) (P := fun a j => (a = 176 + 2 * l.toNat ∧ j = 1) ∨ a = 177 + 2 * l.toNat) (Or.inl ⟨rfl, rfl⟩))
        have en : zI (wI υ (176 + 2 * l.toNat) 1 n) (176 + 2 * l.toNat) 1 = n := by rw [zI_wI, if_pos ⟨rfl, rfl⟩]
        refine q _ (cT'.learned l0 l1 g2 ⟨by rw [en]; omega, by rw [en, if_neg (by omega)]; exact n1, fun i hi => ?_⟩) (by rw [en]; omega) ((w3.mono (fun a j w => by omega)).tr (g2.mono (fun a j w => by omega)))
        rw [en] at hi
        have := hv i (by omega)
        rw [show 177 + 2 * l.toNat = 176 + 2 * l.toNat + 1 by omega] at this
        exact this
      | succ m ih =>
        intro x υ hx hv g
        have hU := g.shp hT
        refine r_Counter_learn_120 ?_
        simp only [hU, (hU.lawO hl).1, (hU.lawO hl).2.1, zrI, zrL, zrR, Shp_wI, Shp_wJ, zR_wI, zR_wJ, zJ_wI, zI_wJ, zobj_wI, zobj_wJ, zarr_wI, zarr_wJ, zS_wI, zS_wJ, o_2, a_3, a_4, a_5, o_10, a_11, a_12, o_137, o_138, a_139, o_140, a_141, o_142, a_143, o_146, a_147, a_148, a_149, o_152, a_153, o_154, a_157, o_158, a_159, r_2_0, r_2_1, r_2_2, r_2_3, r_2_4, r_2_5, r_2_6, r_2_7, r_2_8, r_2_9, r_2_10, r_10_0, r_10_1, r_137_0, r_137_1, r_137_2, r_138_0, r_140_0, r_142_0, r_146_0, r_146_1, r_146_2, r_146_3, r_152_0, r_154_0, r_154_1, r_158_0, zrI, zrL, zrR, ne_eq, true_and, and_true, true_or, or_true, not_true_eq_false, not_false_eq_true, false_and, and_false, forall_const, true_implies, false_implies, implies_true, reduceCtorEq, Int.reduceEq, Int.reduceNe, Int.reduceLT, Int.reduceLE, Int.reduceNeg, Nat.reduceEqDiff, if_true, if_false, reduceIte, Int.reduceMul, Int.reduceAdd, Int.reduceSub]
        refine ⟨fun c => by omega, fun _ => ?_⟩
        refine t_Table_at (w := L l) (f := f) hU (f2.step (fun j => g.j (by omega))) (by omega) (by omega) ?_
        simp only [hU, zrI, zrL, zrR, Shp_wI, Shp_wJ, zR_wI, zR_wJ, zJ_wI, zI_wJ, zobj_wI, zobj_wJ, zarr_wI, zarr_wJ, zS_wI, zS_wJ, o_2, a_3, a_4, a_5, o_10, a_11, a_12, o_137, o_138, a_139, o_140, a_141, o_142, a_143, o_146, a_147, a_148, a_149, o_152, a_153, o_154, a_157, o_158, a_159, r_2_0, r_2_1, r_2_2, r_2_3, r_2_4, r_2_5, r_2_6, r_2_7, r_2_8, r_2_9, r_2_10, r_10_0, r_10_1, r_137_0, r_137_1, r_137_2, r_138_0, r_140_0, r_142_0, r_146_0, r_146_1, r_146_2, r_146_3, r_152_0, r_154_0, r_154_1, r_158_0, zrI, zrL, zrR, ne_eq, true_and, and_true, true_or, or_true, not_true_eq_false, not_false_eq_true, false_and, and_false, forall_const, true_implies, false_implies, implies_true, reduceCtorEq, Int.reduceEq, Int.reduceNe, Int.reduceLT, Int.reduceLE, Int.reduceNeg, Nat.reduceEqDiff, if_true, if_false, reduceIte, Int.reduceMul, Int.reduceAdd, Int.reduceSub]
        rw [if_neg (by omega), Int.toNat_natCast]
        refine ⟨(hU.lawO hl).2.2 _ (by omega) (by omega), by omega, ?_⟩
        have := ih (x + 1) (wJ υ (176 + 2 * l.toNat + 1) (x : Int) (Int64.ofNat (tabN (L l) x x))) (by omega) (fun i hi => ?_) (g.tr (Fz.wJ (by omega)))
        · rw [Int.natCast_succ] at this
          exact this
        · rw [zJ_wJ]
          by_cases ei : i = x
          · rw [if_pos ⟨by omega, by omega⟩, ei]
            unfold cntS
            rw [if_pos e2]
          · rw [if_neg (by omega)]
            exact hv i (by omega)
    simp only [hT, (hT.lawO hl).1, zrI, zrL, zrR, Shp_wI, Shp_wJ, zR_wI, zR_wJ, zJ_wI, zI_wJ, zobj_wI, zobj_wJ, zarr_wI, zarr_wJ, zS_wI, zS_wJ, o_2, a_3, a_4, a_5, o_10, a_11, a_12, o_137, o_138, a_139, o_140, a_141, o_142, a_143, o_146, a_147, a_148, a_149, o_152, a_153, o_154, a_157, o_158, a_159, r_2_0, r_2_1, r_2_2, r_2_3, r_2_4, r_2_5, r_2_6, r_2_7, r_2_8, r_2_9, r_2_10, r_10_0, r_10_1, r_137_0, r_137_1, r_137_2, r_138_0, r_140_0, r_142_0, r_146_0, r_146_1, r_146_2, r_146_3, r_152_0, r_154_0, r_154_1, r_158_0, zrI, zrL, zrR, ne_eq, true_and, and_true, true_or, or_true, not_true_eq_false, not_false_eq_true, false_and, and_false, forall_const, true_implies, false_implies, implies_true, reduceCtorEq, Int.reduceEq, Int.reduceNe, Int.reduceLT, Int.reduceLE, Int.reduceNeg, Nat.reduceEqDiff, if_true, if_false, reduceIte, Int.reduceMul, Int.reduceAdd, Int.reduceSub]
    refine ⟨by omega, ?_⟩
    have := key (n - zI τ (176 + 2 * l.toNat) 1).toNat (zI τ (176 + 2 * l.toNat) 1 + 1).toNat τ (by omega) (fun i hi => ?_) Fz.rf
    · rw [show ((zI τ (176 + 2 * l.toNat) 1 + 1).toNat : Int) = zI τ (176 + 2 * l.toNat) 1 + 1 by omega] at this
      exact this
    · have := k3 i (by omega)
      rw [w3.j (by omega), show 177 + 2 * l.toNat = 176 + 2 * l.toNat + 1 by omega]
      exact this
  · rw [if_pos e] at n1 k2
    obtain ⟨e9, e10⟩ := p.2.2.2.1 e
    have hw : 0 ≤ L l 1 ∧ 0 ≤ L l 2 := by unfold lawOK canB at ok; omega
    refine t_Box_prepare hS cB n0 n1 (fun τ w1 w2 w3 => ?_)
    obtain ⟨f, f1, f2⟩ := w2
    have hT := w3.shp hS
    have cT' : CoI τ L := ⟨w3.lawsP (fun a j _ _ _ => by omega) cP, w3.lawsK (fun a j _ _ _ => by omega) cK, w3.tabI (fun j => by omega) (fun j => by omega) cT, w1⟩
    have ek : zI τ (176 + 2 * l.toNat) 1 = zI σ (176 + 2 * l.toNat) 1 := w3.i (by omega)
    have key : ∀ (m : Nat) (x : Nat) (υ : ZM), (x : Int) + m = n + 1 → (∀ i : Nat, i < x → zJ υ (177 + 2 * l.toNat) (i : Int) = cntS (L l) i) → Fz (fun a j => (a = 176 + 2 * l.toNat ∧ j = 1) ∨ a = 177 + 2 * l.toNat) τ υ → WP m_Counter_learn 47 [zr 137, zr (176 + 2 * l.toNat), zi n, zi (x : Int)] [] υ (0, 0) Q := by
      intro m
      induction m with
      | zero =>
        intro x υ hx hv g
        have hU := g.shp hT
        refine r_Counter_learn_47 ?_
        simp only [hU, (hU.lawO hl).1, zrI, zrL, zrR, Shp_wI, Shp_wJ, zR_wI, zR_wJ, zJ_wI, zI_wJ, zobj_wI, zobj_wJ, zarr_wI, zarr_wJ, zS_wI, zS_wJ, o_2, a_3, a_4, a_5, o_10, a_11, a_12, o_137, o_138, a_139, o_140, a_141, o_142, a_143, o_146, a_147, a_148, a_149, o_152, a_153, o_154, a_157, o_158, a_159, r_2_0, r_2_1, r_2_2, r_2_3, r_2_4, r_2_5, r_2_6, r_2_7, r_2_8, r_2_9, r_2_10, r_10_0, r_10_1, r_137_0, r_137_1, r_137_2, r_138_0, r_140_0, r_142_0, r_146_0, r_146_1, r_146_2, r_146_3, r_152_0, r_154_0, r_154_1, r_158_0, zrI, zrL, zrR, ne_eq, true_and, and_true, true_or, or_true, not_true_eq_false, not_false_eq_true, false_and, and_false, forall_const, true_implies, false_implies, implies_true, reduceCtorEq, Int.reduceEq, Int.reduceNe, Int.reduceLT, Int.reduceLE, Int.reduceNeg, Nat.reduceEqDiff, if_true, if_false, reduceIte, Int.reduceMul, Int.reduceAdd, Int.reduceSub]
        refine ⟨fun _ => ?_, fun c => by omega⟩
        have g2 := g.tr (Fz.wI (σ := υ) (a := 176 + 2 * l.toNat) (i := 1) (x := n) (P := fun a j => (a = 176 + 2 * l.toNat ∧ j = 1) ∨ a = 177 + 2 * l.toNat) (Or.inl ⟨rfl, rfl⟩))
        have en : zI (wI υ (176 + 2 * l.toNat) 1 n) (176 + 2 * l.toNat) 1 = n := by rw [zI_wI, if_pos ⟨rfl, rfl⟩]
        refine q _ (cT'.learned l0 l1 g2 ⟨by rw [en]; omega, by rw [en, if_pos e]; exact n1, fun i hi => ?_⟩) (by rw [en]; omega) ((w3.mono (fun a j w => by omega)).tr (g2.mono (fun a j w => by omega)))
        rw [en] at hi
        have := hv i (by omega)
        rw [show 177 + 2 * l.toNat = 176 + 2 * l.toNat + 1 by omega] at this
        exact this
      | succ m ih =>
        intro x υ hx hv g
        have hU := g.shp hT
        have i9 : zI υ (176 + 2 * l.toNat) 9 = L l 1 := by rw [g.i (by omega), w3.i (by omega)]; exact e9
        have i10 : zI υ (176 + 2 * l.toNat) 10 = L l 2 := by rw [g.i (by omega), w3.i (by omega)]; exact e10
        refine r_Counter_learn_47 ?_
        simp only [hU, (hU.lawO hl).1, (hU.lawO hl).2.1, i9, i10, zrI, zrL, zrR, Shp_wI, Shp_wJ, zR_wI, zR_wJ, zJ_wI, zI_wJ, zobj_wI, zobj_wJ, zarr_wI, zarr_wJ, zS_wI, zS_wJ, o_2, a_3, a_4, a_5, o_10, a_11, a_12, o_137, o_138, a_139, o_140, a_141, o_142, a_143, o_146, a_147, a_148, a_149, o_152, a_153, o_154, a_157, o_158, a_159, r_2_0, r_2_1, r_2_2, r_2_3, r_2_4, r_2_5, r_2_6, r_2_7, r_2_8, r_2_9, r_2_10, r_10_0, r_10_1, r_137_0, r_137_1, r_137_2, r_138_0, r_140_0, r_142_0, r_146_0, r_146_1, r_146_2, r_146_3, r_152_0, r_154_0, r_154_1, r_158_0, zrI, zrL, zrR, ne_eq, true_and, and_true, true_or, or_true, not_true_eq_false, not_false_eq_true, false_and, and_false, forall_const, true_implies, false_implies, implies_true, reduceCtorEq, Int.reduceEq, Int.reduceNe, Int.reduceLT, Int.reduceLE, Int.reduceNeg, Nat.reduceEqDiff, if_true, if_false, reduceIte, Int.reduceMul, Int.reduceAdd, Int.reduceSub]
        refine ⟨fun c => by omega, fun _ => ?_⟩
        refine t_Box_at (f := f) hU (f2.same (fun j => g.i (by omega))) (by omega) (by omega) ?_
        simp only [hU, zrI, zrL, zrR, Shp_wI, Shp_wJ, zR_wI, zR_wJ, zJ_wI, zI_wJ, zobj_wI, zobj_wJ, zarr_wI, zarr_wJ, zS_wI, zS_wJ, o_2, a_3, a_4, a_5, o_10, a_11, a_12, o_137, o_138, a_139, o_140, a_141, o_142, a_143, o_146, a_147, a_148, a_149, o_152, a_153, o_154, a_157, o_158, a_159, r_2_0, r_2_1, r_2_2, r_2_3, r_2_4, r_2_5, r_2_6, r_2_7, r_2_8, r_2_9, r_2_10, r_10_0, r_10_1, r_137_0, r_137_1, r_137_2, r_138_0, r_140_0, r_142_0, r_146_0, r_146_1, r_146_2, r_146_3, r_152_0, r_154_0, r_154_1, r_158_0, zrI, zrL, zrR, ne_eq, true_and, and_true, true_or, or_true, not_true_eq_false, not_false_eq_true, false_and, and_false, forall_const, true_implies, false_implies, implies_true, reduceCtorEq, Int.reduceEq, Int.reduceNe, Int.reduceLT, Int.reduceLE, Int.reduceNeg, Nat.reduceEqDiff, if_true, if_false, reduceIte, Int.reduceMul, Int.reduceAdd, Int.reduceSub]
        refine ⟨(hU.lawO hl).2.2 _ (by omega) (by omega), by omega, ?_⟩
        have := ih (x + 1) (wJ υ (176 + 2 * l.toNat + 1) (x : Int) (bxL (L l 1) (L l 2) (x : Int))) (by omega) (fun i hi => ?_) (g.tr (Fz.wJ (by omega)))
        · rw [Int.natCast_succ] at this
          exact this
        · rw [zJ_wJ]
          by_cases ei : i = x
          · rw [if_pos ⟨by omega, by omega⟩, ei]
            unfold cntS bxL
            rw [if_neg (by omega), if_neg (by omega), if_pos e, Int.toNat_natCast]
          · rw [if_neg (by omega)]
            exact hv i (by omega)
    simp only [hT, (hT.lawO hl).1, zrI, zrL, zrR, Shp_wI, Shp_wJ, zR_wI, zR_wJ, zJ_wI, zI_wJ, zobj_wI, zobj_wJ, zarr_wI, zarr_wJ, zS_wI, zS_wJ, o_2, a_3, a_4, a_5, o_10, a_11, a_12, o_137, o_138, a_139, o_140, a_141, o_142, a_143, o_146, a_147, a_148, a_149, o_152, a_153, o_154, a_157, o_158, a_159, r_2_0, r_2_1, r_2_2, r_2_3, r_2_4, r_2_5, r_2_6, r_2_7, r_2_8, r_2_9, r_2_10, r_10_0, r_10_1, r_137_0, r_137_1, r_137_2, r_138_0, r_140_0, r_142_0, r_146_0, r_146_1, r_146_2, r_146_3, r_152_0, r_154_0, r_154_1, r_158_0, zrI, zrL, zrR, ne_eq, true_and, and_true, true_or, or_true, not_true_eq_false, not_false_eq_true, false_and, and_false, forall_const, true_implies, false_implies, implies_true, reduceCtorEq, Int.reduceEq, Int.reduceNe, Int.reduceLT, Int.reduceLE, Int.reduceNeg, Nat.reduceEqDiff, if_true, if_false, reduceIte, Int.reduceMul, Int.reduceAdd, Int.reduceSub]
    refine ⟨by omega, ?_⟩
    have := key (n - zI τ (176 + 2 * l.toNat) 1).toNat (zI τ (176 + 2 * l.toNat) 1 + 1).toNat τ (by omega) (fun i hi => ?_) Fz.rf
    · rw [show ((zI τ (176 + 2 * l.toNat) 1 + 1).toNat : Int) = zI τ (176 + 2 * l.toNat) 1 + 1 by omega] at this
      exact this
    · have := k3 i (by omega)
      rw [w3.j (by omega), show 177 + 2 * l.toNat = 176 + 2 * l.toNat + 1 by omega]
      exact this
  · rw [if_neg (by omega)] at n1
    refine r_Counter_learnOwn_0 ?_
    simp only [hS, o, o2, zrI, zrL, zrR, Shp_wI, Shp_wJ, zR_wI, zR_wJ, zJ_wI, zI_wJ, zobj_wI, zobj_wJ, zarr_wI, zarr_wJ, zS_wI, zS_wJ, o_2, a_3, a_4, a_5, o_10, a_11, a_12, o_137, o_138, a_139, o_140, a_141, o_142, a_143, o_146, a_147, a_148, a_149, o_152, a_153, o_154, a_157, o_158, a_159, r_2_0, r_2_1, r_2_2, r_2_3, r_2_4, r_2_5, r_2_6, r_2_7, r_2_8, r_2_9, r_2_10, r_10_0, r_10_1, r_137_0, r_137_1, r_137_2, r_138_0, r_140_0, r_142_0, r_146_0, r_146_1, r_146_2, r_146_3, r_152_0, r_154_0, r_154_1, r_158_0, zrI, zrL, zrR, ne_eq, true_and, and_true, true_or, or_true, not_true_eq_false, not_false_eq_true, false_and, and_false, forall_const, true_implies, false_implies, implies_true, reduceCtorEq, Int.reduceEq, Int.reduceNe, Int.reduceLT, Int.reduceLE, Int.reduceNeg, Nat.reduceEqDiff, if_true, if_false, reduceIte, Int.reduceMul, Int.reduceAdd, Int.reduceSub]
    refine t_setOne (hS.lawRow hl) (fun τ w1 w2 => ?_)
    have hT := w2.shp hS
    simp only [hT, (hT.lawO hl).1, (hT.lawO hl).2.1, zrI, zrL, zrR, Shp_wI, Shp_wJ, zR_wI, zR_wJ, zJ_wI, zI_wJ, zobj_wI, zobj_wJ, zarr_wI, zarr_wJ, zS_wI, zS_wJ, o_2, a_3, a_4, a_5, o_10, a_11, a_12, o_137, o_138, a_139, o_140, a_141, o_142, a_143, o_146, a_147, a_148, a_149, o_152, a_153, o_154, a_157, o_158, a_159, r_2_0, r_2_1, r_2_2, r_2_3, r_2_4, r_2_5, r_2_6, r_2_7, r_2_8, r_2_9, r_2_10, r_10_0, r_10_1, r_137_0, r_137_1, r_137_2, r_138_0, r_140_0, r_142_0, r_146_0, r_146_1, r_146_2, r_146_3, r_152_0, r_154_0, r_154_1, r_158_0, zrI, zrL, zrR, ne_eq, true_and, and_true, true_or, or_true, not_true_eq_false, not_false_eq_true, false_and, and_false, forall_const, true_implies, false_implies, implies_true, reduceCtorEq, Int.reduceEq, Int.reduceNe, Int.reduceLT, Int.reduceLE, Int.reduceNeg, Nat.reduceEqDiff, if_true, if_false, reduceIte, Int.reduceMul, Int.reduceAdd, Int.reduceSub]
    refine t_takeFactors (m := 4) (r := 2) (e := 1) hT (Or.inl rfl) (hT.lawRow hl) (by omega) (by omega) (by omega) (by omega) (by omega) (by omega) w1 (fun υ v1 v2 => ?_)
    have hU := v2.shp hT
    simp only [hU, (hU.lawO hl).1, (hU.lawO hl).2.1, zrI, zrL, zrR, Shp_wI, Shp_wJ, zR_wI, zR_wJ, zJ_wI, zI_wJ, zobj_wI, zobj_wJ, zarr_wI, zarr_wJ, zS_wI, zS_wJ, o_2, a_3, a_4, a_5, o_10, a_11, a_12, o_137, o_138, a_139, o_140, a_141, o_142, a_143, o_146, a_147, a_148, a_149, o_152, a_153, o_154, a_157, o_158, a_159, r_2_0, r_2_1, r_2_2, r_2_3, r_2_4, r_2_5, r_2_6, r_2_7, r_2_8, r_2_9, r_2_10, r_10_0, r_10_1, r_137_0, r_137_1, r_137_2, r_138_0, r_140_0, r_142_0, r_146_0, r_146_1, r_146_2, r_146_3, r_152_0, r_154_0, r_154_1, r_158_0, zrI, zrL, zrR, ne_eq, true_and, and_true, true_or, or_true, not_true_eq_false, not_false_eq_true, false_and, and_false, forall_const, true_implies, false_implies, implies_true, reduceCtorEq, Int.reduceEq, Int.reduceNe, Int.reduceLT, Int.reduceLE, Int.reduceNeg, Nat.reduceEqDiff, if_true, if_false, reduceIte, Int.reduceMul, Int.reduceAdd, Int.reduceSub]
    refine t_takeFactors (m := 2) (r := 1) (e := -1) hU (Or.inl rfl) (hU.lawRow hl) (by omega) (by omega) (by omega) (by omega) (by omega) (by omega) v1 (fun ω u1 u2 => ?_)
    have hW := u2.shp hU
    simp only [hW, (hW.lawO hl).1, zrI, zrL, zrR, Shp_wI, Shp_wJ, zR_wI, zR_wJ, zJ_wI, zI_wJ, zobj_wI, zobj_wJ, zarr_wI, zarr_wJ, zS_wI, zS_wJ, o_2, a_3, a_4, a_5, o_10, a_11, a_12, o_137, o_138, a_139, o_140, a_141, o_142, a_143, o_146, a_147, a_148, a_149, o_152, a_153, o_154, a_157, o_158, a_159, r_2_0, r_2_1, r_2_2, r_2_3, r_2_4, r_2_5, r_2_6, r_2_7, r_2_8, r_2_9, r_2_10, r_10_0, r_10_1, r_137_0, r_137_1, r_137_2, r_138_0, r_140_0, r_142_0, r_146_0, r_146_1, r_146_2, r_146_3, r_152_0, r_154_0, r_154_1, r_158_0, zrI, zrL, zrR, ne_eq, true_and, and_true, true_or, or_true, not_true_eq_false, not_false_eq_true, false_and, and_false, forall_const, true_implies, false_implies, implies_true, reduceCtorEq, Int.reduceEq, Int.reduceNe, Int.reduceLT, Int.reduceLE, Int.reduceNeg, Nat.reduceEqDiff, if_true, if_false, reduceIte, Int.reduceMul, Int.reduceAdd, Int.reduceSub]
    have g1 : Fz (fun a j => a = 177 + 2 * l.toNat ∨ a = 143) σ ω := ((w2.z (fun a j w => by omega)).tr (v2.z (fun a j w => by omega))).tr (u2.z (fun a j w => by omega))
    have g2 : Fz (fun a j => (a = 176 + 2 * l.toNat ∧ j = 1) ∨ a = 177 + 2 * l.toNat ∨ a = 143) σ (wI ω (176 + 2 * l.toNat) 1 400) := (g1.mono (fun a j w => Or.inr w)).tr (Fz.wI (Or.inl ⟨rfl, rfl⟩))
    have en : zI (wI ω (176 + 2 * l.toNat) 1 400) (176 + 2 * l.toNat) 1 = 400 := by rw [zI_wI, if_pos ⟨rfl, rfl⟩]
    refine q _ ⟨g2.lawsP2 (fun a j _ _ _ _ => by omega) cP, fun m m0 m1 => ?_, g2.tabI (fun j => by omega) (fun j => by omega) cT, g2.boxI (fun j => by omega) (fun j => by omega) cB⟩ (by rw [en]; omega) (g2.mono (fun a j w => by omega))
    by_cases em : m = l
    · rw [em]
      refine ⟨by rw [en]; omega, by rw [en, if_neg (by omega)]; omega, fun i hi => ?_⟩
      rw [en] at hi
      have := u1 i (by omega)
      unfold cntS
      rw [if_neg (by omega), if_neg (by omega), if_pos e]
      exact this
    · exact g2.lawK (by omega) (fun j => by omega) (cK m m0 m1)
  · rw [if_neg (by omega)] at n1
    have hw : 2 ≤ L l 1 ∧ L l 1 ≤ 12 := by unfold lawOK canB at ok; omega
    refine r_Counter_learnCores_0 ?_
    simp only [hS, o, o2, zrI, zrL, zrR, Shp_wI, Shp_wJ, zR_wI, zR_wJ, zJ_wI, zI_wJ, zobj_wI, zobj_wJ, zarr_wI, zarr_wJ, zS_wI, zS_wJ, o_2, a_3, a_4, a_5, o_10, a_11, a_12, o_137, o_138, a_139, o_140, a_141, o_142, a_143, o_146, a_147, a_148, a_149, o_152, a_153, o_154, a_157, o_158, a_159, r_2_0, r_2_1, r_2_2, r_2_3, r_2_4, r_2_5, r_2_6, r_2_7, r_2_8, r_2_9, r_2_10, r_10_0, r_10_1, r_137_0, r_137_1, r_137_2, r_138_0, r_140_0, r_142_0, r_146_0, r_146_1, r_146_2, r_146_3, r_152_0, r_154_0, r_154_1, r_158_0, zrI, zrL, zrR, ne_eq, true_and, and_true, true_or, or_true, not_true_eq_false, not_false_eq_true, false_and, and_false, forall_const, true_implies, false_implies, implies_true, reduceCtorEq, Int.reduceEq, Int.reduceNe, Int.reduceLT, Int.reduceLE, Int.reduceNeg, Nat.reduceEqDiff, if_true, if_false, reduceIte, Int.reduceMul, Int.reduceAdd, Int.reduceSub]
    refine t_setOne (hS.lawRow hl) (fun τ w1 w2 => ?_)
    have hT := w2.shp hS
    simp only [hT, (hT.lawO hl).1, (hT.lawO hl).2.1, zrI, zrL, zrR, Shp_wI, Shp_wJ, zR_wI, zR_wJ, zJ_wI, zI_wJ, zobj_wI, zobj_wJ, zarr_wI, zarr_wJ, zS_wI, zS_wJ, o_2, a_3, a_4, a_5, o_10, a_11, a_12, o_137, o_138, a_139, o_140, a_141, o_142, a_143, o_146, a_147, a_148, a_149, o_152, a_153, o_154, a_157, o_158, a_159, r_2_0, r_2_1, r_2_2, r_2_3, r_2_4, r_2_5, r_2_6, r_2_7, r_2_8, r_2_9, r_2_10, r_10_0, r_10_1, r_137_0, r_137_1, r_137_2, r_138_0, r_140_0, r_142_0, r_146_0, r_146_1, r_146_2, r_146_3, r_152_0, r_154_0, r_154_1, r_158_0, zrI, zrL, zrR, ne_eq, true_and, and_true, true_or, or_true, not_true_eq_false, not_false_eq_true, false_and, and_false, forall_const, true_implies, false_implies, implies_true, reduceCtorEq, Int.reduceEq, Int.reduceNe, Int.reduceLT, Int.reduceLE, Int.reduceNeg, Nat.reduceEqDiff, if_true, if_false, reduceIte, Int.reduceMul, Int.reduceAdd, Int.reduceSub]
    refine t_takeFactors (m := 1) (r := 0) (e := -1) hT (Or.inl rfl) (hT.lawRow hl) (by omega) (by omega) (by omega) (by omega) (by omega) (by omega) w1 (fun υ v1 v2 => ?_)
    have hU := v2.shp hT
    have i11 : zI υ (176 + 2 * l.toNat) 11 = ((L l 1).toNat : Int) := by rw [(v2.2.2.2 _ (by omega)).1, (w2.2.2.2 _ (by omega)).1, p.2.2.2.2 e]; omega
    simp only [hU, (hU.lawO hl).1, (hU.lawO hl).2.1, i11, zrI, zrL, zrR, Shp_wI, Shp_wJ, zR_wI, zR_wJ, zJ_wI, zI_wJ, zobj_wI, zobj_wJ, zarr_wI, zarr_wJ, zS_wI, zS_wJ, o_2, a_3, a_4, a_5, o_10, a_11, a_12, o_137, o_138, a_139, o_140, a_141, o_142, a_143, o_146, a_147, a_148, a_149, o_152, a_153, o_154, a_157, o_158, a_159, r_2_0, r_2_1, r_2_2, r_2_3, r_2_4, r_2_5, r_2_6, r_2_7, r_2_8, r_2_9, r_2_10, r_10_0, r_10_1, r_137_0, r_137_1, r_137_2, r_138_0, r_140_0, r_142_0, r_146_0, r_146_1, r_146_2, r_146_3, r_152_0, r_154_0, r_154_1, r_158_0, zrI, zrL, zrR, ne_eq, true_and, and_true, true_or, or_true, not_true_eq_false, not_false_eq_true, false_and, and_false, forall_const, true_implies, false_implies, implies_true, reduceCtorEq, Int.reduceEq, Int.reduceNe, Int.reduceLT, Int.reduceLE, Int.reduceNeg, Nat.reduceEqDiff, if_true, if_false, reduceIte, Int.reduceMul, Int.reduceAdd, Int.reduceSub]
    refine t_takeFactors (m := (L l 1).toNat) (r := 0) (e := ((L l 1).toNat : Int)) hU (Or.inl rfl) (hU.lawRow hl) (by omega) (by omega) (by omega) (by omega) (by omega) (by omega) v1 (fun ω u1 u2 => ?_)
    have hW := u2.shp hU
    simp only [hW, (hW.lawO hl).1, zrI, zrL, zrR, Shp_wI, Shp_wJ, zR_wI, zR_wJ, zJ_wI, zI_wJ, zobj_wI, zobj_wJ, zarr_wI, zarr_wJ, zS_wI, zS_wJ, o_2, a_3, a_4, a_5, o_10, a_11, a_12, o_137, o_138, a_139, o_140, a_141, o_142, a_143, o_146, a_147, a_148, a_149, o_152, a_153, o_154, a_157, o_158, a_159, r_2_0, r_2_1, r_2_2, r_2_3, r_2_4, r_2_5, r_2_6, r_2_7, r_2_8, r_2_9, r_2_10, r_10_0, r_10_1, r_137_0, r_137_1, r_137_2, r_138_0, r_140_0, r_142_0, r_146_0, r_146_1, r_146_2, r_146_3, r_152_0, r_154_0, r_154_1, r_158_0, zrI, zrL, zrR, ne_eq, true_and, and_true, true_or, or_true, not_true_eq_false, not_false_eq_true, false_and, and_false, forall_const, true_implies, false_implies, implies_true, reduceCtorEq, Int.reduceEq, Int.reduceNe, Int.reduceLT, Int.reduceLE, Int.reduceNeg, Nat.reduceEqDiff, if_true, if_false, reduceIte, Int.reduceMul, Int.reduceAdd, Int.reduceSub]
    have g1 : Fz (fun a j => a = 177 + 2 * l.toNat ∨ a = 143) σ ω := ((w2.z (fun a j w => by omega)).tr (v2.z (fun a j w => by omega))).tr (u2.z (fun a j w => by omega))
    have g2 : Fz (fun a j => (a = 176 + 2 * l.toNat ∧ j = 1) ∨ a = 177 + 2 * l.toNat ∨ a = 143) σ (wI ω (176 + 2 * l.toNat) 1 400) := (g1.mono (fun a j w => Or.inr w)).tr (Fz.wI (Or.inl ⟨rfl, rfl⟩))
    have en : zI (wI ω (176 + 2 * l.toNat) 1 400) (176 + 2 * l.toNat) 1 = 400 := by rw [zI_wI, if_pos ⟨rfl, rfl⟩]
    refine q _ ⟨g2.lawsP2 (fun a j _ _ _ _ => by omega) cP, fun m m0 m1 => ?_, g2.tabI (fun j => by omega) (fun j => by omega) cT, g2.boxI (fun j => by omega) (fun j => by omega) cB⟩ (by rw [en]; omega) (g2.mono (fun a j w => by omega))
    by_cases em : m = l
    · rw [em]
      refine ⟨by rw [en]; omega, by rw [en, if_neg (by omega)]; omega, fun i hi => ?_⟩
      rw [en] at hi
      have := u1 i (by omega)
      unfold cntS
      rw [if_neg (by omega), if_neg (by omega), if_neg (by omega)]
      rw [show ((L l 1).toNat : Int) = L l 1 by omega] at this
      exact this
    · exact g2.lawK (by omega) (fun j => by omega) (cK m m0 m1)
theorem t_waysOf {Q : ZQ} {σ : ZM} {L : Int → LW} {l n : Int} (hS : Shp σ) (c : CoI σ L) (l0 : 0 ≤ l) (l1 : l ≤ 7) (n0 : 0 ≤ n) (n1 : n ≤ (if L l 0 = 3 then 60 else 400)) (q : ∀ σ', CoI σ' L → Fz cof σ σ' → Q (zl (cntS (L l) n.toNat)) σ') : WP m_Counter_waysOf 0 [zr 137, zr (176 + 2 * l.toNat), zi n] [] σ (0, 0) Q := by
  have n4 : n ≤ 400 := by split at n1 <;> omega
  have hl := isL_law l0 l1
  obtain ⟨o, o2, o3⟩ := hS.lawO hl
  refine r_Counter_waysOf_0 ?_
  simp only [hS, o, o2, zrI, zrL, zrR, Shp_wI, Shp_wJ, zR_wI, zR_wJ, zJ_wI, zI_wJ, zobj_wI, zobj_wJ, zarr_wI, zarr_wJ, zS_wI, zS_wJ, o_2, a_3, a_4, a_5, o_10, a_11, a_12, o_137, o_138, a_139, o_140, a_141, o_142, a_143, o_146, a_147, a_148, a_149, o_152, a_153, o_154, a_157, o_158, a_159, r_2_0, r_2_1, r_2_2, r_2_3, r_2_4, r_2_5, r_2_6, r_2_7, r_2_8, r_2_9, r_2_10, r_10_0, r_10_1, r_137_0, r_137_1, r_137_2, r_138_0, r_140_0, r_142_0, r_146_0, r_146_1, r_146_2, r_146_3, r_152_0, r_154_0, r_154_1, r_158_0, zrI, zrL, zrR, ne_eq, true_and, and_true, true_or, or_true, not_true_eq_false, not_false_eq_true, false_and, and_false, forall_const, true_implies, false_implies, implies_true, reduceCtorEq, Int.reduceEq, Int.reduceNe, Int.reduceLT, Int.reduceLE, Int.reduceNeg, Nat.reduceEqDiff, if_true, if_false, reduceIte, Int.reduceMul, Int.reduceAdd, Int.reduceSub]
  refine ⟨fun h => ⟨o3 n n0 (by omega), ?_⟩, fun h => ?_⟩
  · have := (c.2.1 l l0 l1).2.2 n.toNat (by omega)
    rw [show (n.toNat : Int) = n by omega] at this
    rw [this]
    exact q σ c Fz.rf
  · refine t_learn hS c l0 l1 n0 n1 h (fun τ w1 w2 w3 => ?_)
    have hT := w3.shp hS
    simp only [hT, (hT.lawO hl).1, (hT.lawO hl).2.1, zrI, zrL, zrR, Shp_wI, Shp_wJ, zR_wI, zR_wJ, zJ_wI, zI_wJ, zobj_wI, zobj_wJ, zarr_wI, zarr_wJ, zS_wI, zS_wJ, o_2, a_3, a_4, a_5, o_10, a_11, a_12, o_137, o_138, a_139, o_140, a_141, o_142, a_143, o_146, a_147, a_148, a_149, o_152, a_153, o_154, a_157, o_158, a_159, r_2_0, r_2_1, r_2_2, r_2_3, r_2_4, r_2_5, r_2_6, r_2_7, r_2_8, r_2_9, r_2_10, r_10_0, r_10_1, r_137_0, r_137_1, r_137_2, r_138_0, r_140_0, r_142_0, r_146_0, r_146_1, r_146_2, r_146_3, r_152_0, r_154_0, r_154_1, r_158_0, zrI, zrL, zrR, ne_eq, true_and, and_true, true_or, or_true, not_true_eq_false, not_false_eq_true, false_and, and_false, forall_const, true_implies, false_implies, implies_true, reduceCtorEq, Int.reduceEq, Int.reduceNe, Int.reduceLT, Int.reduceLE, Int.reduceNeg, Nat.reduceEqDiff, if_true, if_false, reduceIte, Int.reduceMul, Int.reduceAdd, Int.reduceSub]
    have := (w1.2.1 l l0 l1).2.2 n.toNat (by omega)
    rw [show (n.toNat : Int) = n by omega] at this
    rw [this]
    exact ⟨(hT.lawO hl).2.2 n n0 (by omega), q τ w1 w3⟩
