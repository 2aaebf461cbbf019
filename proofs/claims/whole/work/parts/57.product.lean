/-! Product, of the class -/
def IsRow (σ : ZM) (a : Nat) : Prop := 2 ≤ a ∧ a < zN σ ∧ zS σ a = (101, 401)
theorem IsRow.arr {σ : ZM} {a : Nat} (h : IsRow σ a) {i : Int} (i0 : 0 ≤ i) (i1 : i ≤ 400) : zarr σ a 101 i := ⟨h.1, h.2.1, by rw [h.2.2], i0, by rw [h.2.2]; show i < 401; omega⟩
theorem IsRow.len {σ : ZM} {a : Nat} (h : IsRow σ a) : (2 ≤ a ∧ a < zN σ ∧ 100 ≤ (zS σ a).1 ∧ (zS σ a).1 ≤ 105) ∧ ((zS σ a).2 : Int) = 401 := ⟨⟨h.1, h.2.1, by rw [h.2.2]; decide, by rw [h.2.2]; decide⟩, by rw [h.2.2]; rfl⟩
theorem Fr.row {P : Nat → Prop} {σ σ' : ZM} (h : Fr P σ σ') {a : Nat} (r : IsRow σ a) : IsRow σ' a := ⟨r.1, by rw [h.1]; exact r.2.1, by rw [h.2.1]; exact r.2.2⟩
def RV0 (σ : ZM) (a : Nat) (s : SQ) : Prop := ∀ i : Nat, i ≤ 400 → zJ σ a (i : Int) = s i
theorem RV0.lk {σ : ZM} {a : Nat} {s t : SQ} (h : RV0 σ a s) (l : Lk s t) : RV0 σ a t := fun i hi => (h i hi).trans (l i hi)
theorem Fr.rv {P : Nat → Prop} {σ σ' : ZM} (h : Fr P σ σ') {a : Nat} {s : SQ} (hP : ¬ P a) (r : RV0 σ a s) : RV0 σ' a s := fun i hi => ((h.2.2.2 a hP).2 _).trans (r i hi)
theorem Fz.rv {P : Nat → Int → Prop} {σ σ' : ZM} (h : Fz P σ σ') {a : Nat} {s : SQ} (hP : ∀ j, ¬ P a j) (r : RV0 σ a s) : RV0 σ' a s := fun i hi => (h.j (hP _)).trans (r i hi)
def isP (h : Nat) : Prop := h = 142 ∨ h = 158
theorem Shp.prodO {σ : ZM} (hS : Shp σ) {h : Nat} (p : isP h) : zobj σ h 7 ∧ zR σ h 0 = h + 1 ∧ ∀ i : Int, zarr σ (h + 1) 101 i = (0 ≤ i ∧ i < 21) := by
  rcases p with rfl | rfl
  · exact ⟨hS.obj (by decide) (by decide) rfl, r_142_0 hS, fun i => a_143 hS⟩
  · exact ⟨hS.obj (by decide) (by decide) rfl, r_158_0 hS, fun i => a_159 hS⟩
def ChV (σ : ZM) (h e : Nat) : Prop := ∀ j : Nat, j ≤ e → zJ σ (h + 1) (j : Int) = chN e j
theorem ofInt_ne {x : Int} (h : 1 ≤ x) (h2 : x ≤ 1000) : Int64.ofInt x ≠ 0 := by
  intro e
  have := congrArg Int64.toInt e
  rw [l64 (by omega)] at this
  have e0 : (0 : Int64).toInt = 0 := rfl
  omega
theorem t_choose {Q : ZQ} {σ : ZM} {h e : Nat} (hS : Shp σ) (p : isP h) (he : e ≤ 20) (q : ∀ σ', ChV σ' h e → Fr (fun a => a = h + 1) σ σ' → Q zu σ') : WP m_Product_choose 0 [zr h, zi (e : Int), zu] [] σ (0, 0) Q := by
  have key : ∀ (m j : Nat) (τ : ZM), j + m = e → (∀ i : Nat, i ≤ j → zJ τ (h + 1) (i : Int) = chN e i) → Fr (fun a => a = h + 1) σ τ → WP m_Product_choose 9 [zr h, zi (e : Int), zi ((j : Int) + 1)] [] τ (0, 0) Q := by
    intro m
    induction m with
    | zero =>
      intro j τ hm hv f
      refine r_Product_choose_9 ?_
      repeat' first | omega | exact Or.inl (by omega) | apply And.intro | refine fun (_ : _ ≤ _) => ?_ | refine fun (_ : _ < _) => ?_ | refine fun (_ : _ = _) => ?_ | refine fun (_ : ¬ (_ = _)) => ?_ | refine fun (_ : _ ∨ _) => ?_
      exact q τ (fun i hi => hv i (by omega)) f
    | succ m ih =>
      intro j τ hm hv f
      obtain ⟨o1, o2, o3⟩ := (f.shp hS).prodO p
      refine r_Product_choose_9 ?_
      simp only [o1, o2, o3, zobj_wJ, zR_wJ, zarr_wJ, zrI, zrL, zrR, ne_eq, true_and, and_true, true_or, or_true, not_true_eq_false, not_false_eq_true, false_and, and_false, forall_const, true_implies, false_implies, implies_true, reduceCtorEq, Int.reduceEq, Int.reduceNe, Int.reduceLT, Int.reduceLE, Int.reduceNeg, Nat.reduceEqDiff, if_true, if_false, reduceIte, Int.reduceMul, Int.reduceAdd, Int.reduceSub]
      refine ⟨fun c => by omega, fun c => ⟨by omega, by omega, by omega, by omega, ofInt_ne (by omega) (by omega), by omega, by omega, ?_⟩⟩
      have e1 : zJ τ (h + 1) ((j : Int) + 1 - 1) = chN e j := by rw [show (j : Int) + 1 - 1 = j by omega]; exact hv j (Nat.le_refl _)
      rw [e1]
      have := ih (j + 1) (wJ τ (h + 1) ((j : Int) + 1) (-(chN e j) * Int64.ofInt ((e : Int) - ((j : Int) + 1) + 1) / Int64.ofInt ((j : Int) + 1))) (by omega) (fun i hi => ?_) (f.tr (Fr.wJ rfl))
      · rw [Int.natCast_succ] at this
        exact this
      · rw [zJ_wJ]
        by_cases c2 : i = j + 1
        · rw [if_pos ⟨rfl, by omega⟩, c2]
          rfl
        · rw [if_neg (by omega)]
          exact hv i (by omega)
  obtain ⟨o1, o2, o3⟩ := hS.prodO p
  refine r_Product_choose_0 ?_
  simp only [o1, o2, o3, zrI, zrL, zrR, ne_eq, true_and, and_true, true_or, or_true, not_true_eq_false, not_false_eq_true, false_and, and_false, forall_const, true_implies, false_implies, implies_true, reduceCtorEq, Int.reduceEq, Int.reduceNe, Int.reduceLT, Int.reduceLE, Int.reduceNeg, Nat.reduceEqDiff, if_true, if_false, reduceIte, Int.reduceMul, Int.reduceAdd, Int.reduceSub]
  refine key e 0 _ (by omega) (fun i hi => ?_) (Fr.wJ rfl)
  rw [show i = 0 by omega, zJ_wJ, if_pos ⟨rfl, rfl⟩]
  rfl
theorem t_brought {Q : ZQ} {σ : ZM} {h a e k n : Nat} (hS : Shp σ) (p : isP h) (r : IsRow σ a) (hc : ChV σ h e) (he : e ≤ 20) (k1 : 1 ≤ k) (k4 : k ≤ 400) (n4 : n ≤ 400) (q : Q (zl (br (chN e) (fun i => zJ σ a (i : Int)) k n e)) σ) : WP m_Product_broughtTo 0 [zr h, zr a, zi (n : Int), zi (k : Int), zi (e : Int), zu, zu, zu, zu] [] σ (0, 0) Q := by
  obtain ⟨o1, o2, o3⟩ := hS.prodO p
  have key : ∀ (m j : Nat), j + m = e → (n : Int) - ((j * k : Nat) : Int) ≥ -400 → WP m_Product_broughtTo 11 [zr h, zr a, zi (n : Int), zi (k : Int), zi (e : Int), zl (br (chN e) (fun i => zJ σ a (i : Int)) k n j), zu, zi ((n : Int) - (((j + 1) * k : Nat) : Int)), zi ((j : Int) + 1)] [] σ (0, 0) Q := by
    intro m
    induction m with
    | zero =>
      intro j hm hj
      rw [show j = e by omega]
      refine r_Product_broughtTo_11 ⟨fun _ => q, fun c => by omega⟩
    | succ m ih =>
      intro j hm hj
      have ej : (j + 1) * k = j * k + k := by rw [Nat.add_mul, Nat.one_mul]
      have ej2 : (j + 1 + 1) * k = (j + 1) * k + k := by rw [Nat.add_mul (j + 1) 1 k, Nat.one_mul]
      refine r_Product_broughtTo_11 ?_
      simp only [o1, o2, o3, zrI, zrL, zrR, ne_eq, true_and, and_true, true_or, or_true, not_true_eq_false, not_false_eq_true, false_and, and_false, forall_const, true_implies, false_implies, implies_true, reduceCtorEq, Int.reduceEq, Int.reduceNe, Int.reduceLT, Int.reduceLE, Int.reduceNeg, Nat.reduceEqDiff, if_true, if_false, reduceIte, Int.reduceMul, Int.reduceAdd, Int.reduceSub]
      refine ⟨fun c => by omega, fun _ => ⟨fun c => ?_, fun c => ⟨by omega, r.arr c (by omega), by omega, by omega, ?_⟩⟩⟩
      · rw [br_far (p := j) (by omega) e (by omega)] at q
        exact q
      · have hv := hc (j + 1) (by omega)
        rw [Int.natCast_succ] at hv
        rw [hv]
        have := ih (j + 1) (by omega) (by omega)
        have e5 : br (chN e) (fun i => zJ σ a (i : Int)) k n (j + 1) = br (chN e) (fun i => zJ σ a (i : Int)) k n j + chN e (j + 1) * zJ σ a ((n : Int) - (((j + 1) * k : Nat) : Int)) := by
          show _ + chN e (j + 1) * shS ((j + 1) * k) (fun i => zJ σ a (i : Int)) n = _
          unfold shS
          rw [if_pos (by omega), show (n : Int) - (((j + 1) * k : Nat) : Int) = ((n - (j + 1) * k : Nat) : Int) by omega]
        rw [e5, show (n : Int) - (((j + 1 + 1) * k : Nat) : Int) = (n : Int) - (((j + 1) * k : Nat) : Int) - (k : Int) by omega, Int.natCast_succ] at this
        exact this
  refine r_Product_broughtTo_0 ⟨by omega, ?_⟩
  have := key e 0 (by omega) (by omega)
  rw [show ((0 + 1) * k) = k by omega] at this
  exact this
theorem t_timesPower {Q : ZQ} {σ : ZM} {h a e k : Nat} {s : SQ} (hS : Shp σ) (p : isP h) (r : IsRow σ a) (hne : a ≠ h + 1) (hc : ChV σ h e) (he : e ≤ 20) (k1 : 1 ≤ k) (k4 : k ≤ 400) (hs : RV0 σ a s) (q : ∀ σ', RV0 σ' a (itr (mulX k) e s) → Fr (fun b => b = a) σ σ' → Q zu σ') : WP m_Product_timesPower 0 [zr h, zr a, zi (k : Int), zi (e : Int), zu] [] σ (0, 0) Q := by
  have key : ∀ (m : Nat) (x : Int) (τ : ZM), x + 1 = (k : Int) + m → x ≤ 400 → (∀ n : Nat, n ≤ 400 → zJ τ a (n : Int) = if (n : Int) ≤ x then s n else MP e k s n) → Fr (fun b => b = a) σ τ → WP m_Product_timesPower 6 [zr h, zr a, zi (k : Int), zi (e : Int), zi x] [] τ (0, 0) Q := by
    intro m
    induction m with
    | zero =>
      intro x τ hx x4 hv f
      refine r_Product_timesPower_6 ⟨fun _ => ?_, fun c => by omega⟩
      refine q τ (fun n hn => ?_) f
      rw [← MP_itr s e he, hv n hn]
      split
      · have := br_far (c := chN e) (s := s) (k := k) (n := n) (p := 0) (by omega) e (by omega)
        show s n = s n + br (chN e) s k n e
        rw [this]
        show s n = s n + 0
        simp
      · rfl
    | succ m ih =>
      intro x τ hx x4 hv f
      have hS' := f.shp hS
      have r' := f.row r
      obtain ⟨n, rfl⟩ := Int.eq_ofNat_of_zero_le (show 0 ≤ x by omega)
      have hc' : ChV τ h e := fun j hj => ((f.2.2.2 (h + 1) (fun w => hne w.symm)).2 _).trans (hc j hj)
      refine r_Product_timesPower_6 ⟨fun c => by omega, fun _ => ⟨r'.arr (by omega) (by omega), (hS'.prodO p).1, ?_⟩⟩
      refine t_brought hS' p r' hc' he k1 k4 (by omega) ?_
      refine ⟨r'.arr (by omega) (by omega), by omega, ?_⟩
      refine ih ((n : Int) + -1) _ (by omega) (by omega) (fun i hi => ?_) (f.tr (Fr.wJ rfl))
      rw [zJ_wJ]
      by_cases c : i = n
      · rw [if_pos ⟨rfl, by omega⟩, if_neg (by omega), hv n (by omega), if_pos (by omega), c]
        show _ = s n + br (chN e) s k n e
        rw [br_ext (t := s) k1 (fun m hm => by show zJ τ a (m : Int) = s m; rw [hv m (by omega), if_pos (by omega)])]
      · rw [if_neg (by omega), hv i hi]
        by_cases c2 : (i : Int) ≤ (n : Int)
        · rw [if_pos c2, if_pos (by omega)]
        · rw [if_neg c2, if_neg (by omega)]
  obtain ⟨l1, l2⟩ := r.len
  refine r_Product_timesPower_0 ⟨l1, ?_⟩
  rw [l2]
  refine ⟨by omega, key (401 - k) _ σ (by omega) (by omega) (fun n hn => ?_) Fr.rf⟩
  rw [if_pos (by omega)]
  exact hs n hn
theorem t_overPower {Q : ZQ} {σ : ZM} {h a e k : Nat} {s : SQ} (hS : Shp σ) (p : isP h) (r : IsRow σ a) (hne : a ≠ h + 1) (hc : ChV σ h e) (he : e ≤ 20) (k1 : 1 ≤ k) (k4 : k ≤ 400) (hs : RV0 σ a s) (q : ∀ σ', RV0 σ' a (itr (divX k) e s) → Fr (fun b => b = a) σ σ' → Q zu σ') : WP m_Product_overPower 0 [zr h, zr a, zi (k : Int), zi (e : Int), zu] [] σ (0, 0) Q := by
  have key : ∀ (m x : Nat) (τ : ZM), x + m = 401 → k ≤ x → (∀ n : Nat, n ≤ 400 → n < x → zJ τ a (n : Int) = s n - br (chN e) (fun i => zJ τ a (i : Int)) k n e) → (∀ n : Nat, n ≤ 400 → x ≤ n → zJ τ a (n : Int) = s n) → Fr (fun b => b = a) σ τ → WP m_Product_overPower 3 [zr h, zr a, zi (k : Int), zi (e : Int), zi (x : Int)] [] τ (0, 0) Q := by
    intro m
    induction m with
    | zero =>
      intro x τ hx kx hv hw f
      obtain ⟨l1, l2⟩ := (f.row r).len
      refine r_Product_overPower_3 ⟨l1, ?_⟩
      rw [l2]
      refine ⟨fun _ => ?_, fun c => by omega⟩
      refine q τ ?_ f
      have := over_lk (t := fun i => zJ τ a (i : Int)) (s := s) k1 he (fun n hn => hv n hn (by omega))
      exact fun n hn => this n hn
    | succ m ih =>
      intro x τ hx kx hv hw f
      have hS' := f.shp hS
      have r' := f.row r
      have hc' : ChV τ h e := fun j hj => ((f.2.2.2 (h + 1) (fun w => hne w.symm)).2 _).trans (hc j hj)
      obtain ⟨l1, l2⟩ := r'.len
      refine r_Product_overPower_3 ⟨l1, ?_⟩
      rw [l2]
      refine ⟨fun c => by omega, fun _ => ⟨r'.arr (by omega) (by omega), (hS'.prodO p).1, ?_⟩⟩
      refine t_brought hS' p r' hc' he k1 k4 (by omega) ?_
      refine ⟨r'.arr (by omega) (by omega), by omega, ?_⟩
      have same : ∀ (v : Int64) (n : Nat), n ≤ x → br (chN e) (fun i => zJ (wJ τ a (x : Int) v) a (i : Int)) k n e = br (chN e) (fun i => zJ τ a (i : Int)) k n e := fun v n hn => br_ext k1 (fun m hm => by
        show zJ (wJ τ a (x : Int) v) a (m : Int) = zJ τ a (m : Int)
        rw [zJ_wJ, if_neg (by omega)]) e
      have := ih (x + 1) (wJ τ a (x : Int) (zJ τ a (x : Int) - br (chN e) (fun i => zJ τ a (i : Int)) k x e)) (by omega) (by omega) (fun n hn hx' => ?_) (fun n hn hx' => ?_) (f.tr (Fr.wJ rfl))
      · rw [Int.natCast_succ] at this
        exact this
      · rw [same _ n (by omega), zJ_wJ]
        by_cases c : n = x
        · rw [if_pos ⟨rfl, by omega⟩, c, hw x (by omega) (Nat.le_refl _)]
        · rw [if_neg (by omega)]
          exact hv n hn (by omega)
      · rw [zJ_wJ, if_neg (by omega)]
        exact hw n hn (by omega)
  refine r_Product_overPower_0 (key (401 - k) k σ (by omega) (Nat.le_refl _) (fun n hn hx => ?_) (fun n hn _ => hs n hn) Fr.rf)
  have := br_far (c := chN e) (s := fun i => zJ σ a (i : Int)) (k := k) (n := n) (p := 0) (by omega) e (by omega)
  rw [this, hs n hn]
  show s n = s n - 0
  simp
theorem t_takeFactors {Q : ZQ} {σ : ZM} {h a m r : Nat} {e : Int} {s : SQ} (hS : Shp σ) (p : isP h) (ra : IsRow σ a) (hne : a ≠ h + 1) (hm : 1 ≤ m) (hm4 : m ≤ 400) (hr : r < m) (e0 : -20 ≤ e) (e1 : e ≤ 20) (hs : RV0 σ a s) (q : ∀ σ', RV0 σ' a (facX m r e s) → Fr (fun b => b = a ∨ b = h + 1) σ σ' → Q zu σ') : WP m_Product_takeFactors 0 [zr h, zr a, zi (m : Int), zi (r : Int), zi e, zu, zu] [] σ (0, 0) Q := by
  have emx : max 1 (m : Int) = (m : Int) := by omega
  have key : ∀ (g k : Nat) (τ : ZM) (u : PV) (t : SQ), 1 ≤ k → k ≤ 800 → 401 ≤ k + g → ChV τ h e.natAbs → RV0 τ a t → (∀ σ', RV0 σ' a (facs m e g k t) → Fr (fun b => b = a ∨ b = h + 1) σ σ' → Q zu σ') → Fr (fun b => b = a ∨ b = h + 1) σ τ → WP m_Product_takeFactors 29 [zr h, zr a, zi (m : Int), u, zi e, zi (e.natAbs : Int), zi (k : Int)] [] τ (0, 0) Q := by
    intro g
    induction g with
    | zero =>
      intro k τ u t k1 k8 hf hc ht q f
      obtain ⟨l1, l2⟩ := (f.row ra).len
      refine r_Product_takeFactors_29 ⟨fun c => by omega, fun _ => ⟨l1, ?_⟩⟩
      rw [l2]
      exact ⟨fun _ => q τ ht f, fun c => by omega⟩
    | succ g ih =>
      intro k τ u t k1 k8 hf hc ht q f
      have hS' := f.shp hS
      have r' := f.row ra
      obtain ⟨l1, l2⟩ := r'.len
      refine r_Product_takeFactors_29 ⟨fun c => by omega, fun _ => ⟨l1, ?_⟩⟩
      rw [l2]
      refine ⟨fun c => ?_, fun c => ?_⟩
      · rw [facs_far (by omega)] at q
        exact q τ ht f
      · have hq : ∀ σ', RV0 σ' a (facs m e g (k + m) (pwX k e t)) → Fr (fun b => b = a ∨ b = h + 1) σ σ' → Q zu σ' := fun σ' w1 w2 => q σ' (by
          show RV0 σ' a (if k ≤ 400 then facs m e g (k + m) (pwX k e t) else t)
          rw [if_pos (by omega)]
          exact w1) w2
        have ek : ((k + m : Nat) : Int) = (k : Int) + (m : Int) := by omega
        refine ⟨fun c1 => ⟨fun c2 => t_max ?_, fun c2 => ⟨(hS'.prodO p).1, ?_⟩⟩, fun c1 => ⟨(hS'.prodO p).1, ?_⟩⟩
        · rw [emx]
          refine ⟨by omega, ?_⟩
          have e00 : e = 0 := by omega
          have := ih (k + m) τ u t (by omega) (by omega) (by omega) hc ht (fun σ' w1 w2 => hq σ' (by
            have : pwX k e t = t := by rw [e00]; rfl
            rw [this]; exact w1) w2) f
          rw [ek] at this
          exact this
        · refine t_overPower hS' p r' hne hc (by omega) k1 (by omega) ht (fun υ w1 w2 => t_max ?_)
          rw [emx]
          refine ⟨by omega, ?_⟩
          have hpw : pwX k e t = itr (divX k) e.natAbs t := by
            unfold pwX
            rw [if_neg (by omega), show (-e).toNat = e.natAbs by omega]
          have := ih (k + m) υ u (pwX k e t) (by omega) (by omega) (by omega) (fun j hj => ((w2.2.2.2 (h + 1) (fun w => hne w.symm)).2 _).trans (hc j hj)) (by rw [hpw]; exact w1) hq (f.tr (w2.mono (fun b w => Or.inl w)))
          rw [ek] at this
          exact this
        · refine t_timesPower hS' p r' hne hc (by omega) k1 (by omega) ht (fun υ w1 w2 => t_max ?_)
          rw [emx]
          refine ⟨by omega, ?_⟩
          have hpw : pwX k e t = itr (mulX k) e.natAbs t := by
            unfold pwX
            rw [if_pos (by omega), show e.toNat = e.natAbs by omega]
          have := ih (k + m) υ u (pwX k e t) (by omega) (by omega) (by omega) (fun j hj => ((w2.2.2.2 (h + 1) (fun w => hne w.symm)).2 _).trans (hc j hj)) (by rw [hpw]; exact w1) hq (f.tr (w2.mono (fun b w => Or.inl w)))
          rw [ek] at this
          exact this
  have fin : ∀ x : Int, x = (e.natAbs : Int) → WP m_Math_min_7cf53 0 [zi x, zi 20] [] σ (0, 0) (fun r4 σ5 => zrI r4 (fun y6 => (zobj σ5 h 7 ∧ WP m_Product_choose 0 [zr h, zi y6, zu] [] σ5 (0, 0) (fun r7 σ8 => (((r : Int) ≠ 0 → WP m_Product_takeFactors 29 [zr h, zr a, zi (m : Int), zi (r : Int), zi e, zi y6, zi (r : Int)] [] σ8 (0, 0) Q) ∧ ((r : Int) = 0 → WP m_Product_takeFactors 29 [zr h, zr a, zi (m : Int), zi (r : Int), zi e, zi y6, zi (m : Int)] [] σ8 (0, 0) Q)))))) := by
    intro x hx
    refine t_min ?_
    rw [show min x 20 = (e.natAbs : Int) by omega]
    refine ⟨(hS.prodO p).1, t_choose hS p (by omega) (fun τ w1 w2 => ⟨fun c => ?_, fun c => ?_⟩)⟩
    · refine key 401 r τ _ s (by omega) (by omega) (by omega) w1 (w2.rv (fun w => hne w) hs) (fun σ' z1 z2 => q σ' ?_ z2) (w2.mono (fun b w => Or.inr w))
      unfold facX
      rw [if_neg (by omega)]
      exact z1
    · refine key 401 m τ _ s (by omega) (by omega) (by omega) w1 (w2.rv (fun w => hne w) hs) (fun σ' z1 z2 => q σ' ?_ z2) (w2.mono (fun b w => Or.inr w))
      unfold facX
      rw [if_pos (by omega)]
      exact z1
  refine r_Product_takeFactors_0 (t_abs (by omega) (by omega) (fun c => fin e (by omega)) (fun c => fin (-e) (by omega)))
