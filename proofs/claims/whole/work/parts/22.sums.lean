/-! the methods of Sum, on -/
theorem sm_fst {P : Int → Prop} [DecidablePred P] {r : Int} (h0 : 0 ≤ r) (h1 : ∀ k, 0 ≤ k → k < r → P k) (h2 : ∀ k, r ≤ k → ¬ P k) : ∀ n : Nat, sm (fun k => if P k then 1 else 0) n = if r ≤ n then r else n
  | 0 => by
    show (0 : Int) = _
    split <;> omega
  | n + 1 => by
    show sm (fun k => if P k then 1 else 0) n + (if P n then 1 else 0) = _
    rw [sm_fst h0 h1 h2 n]
    by_cases e : r ≤ (n : Int)
    · rw [if_pos e, if_neg (h2 n e), if_pos (by omega)]
      omega
    · rw [if_neg e, if_pos (h1 n (by omega) (by omega))]
      by_cases e2 : r ≤ ((n + 1 : Nat) : Int)
      · rw [if_pos e2]; omega
      · rw [if_neg e2]; omega
/-- how many parts are above j -/
def colN (l : List Int) (j : Int) : Int := sm (fun k => if j < ga l k then 1 else 0) 400
/-- how many below row i reach beyond column j -/
def legN (l : List Int) (i j : Int) : Int := sm (fun k => if j < ga l (i + 1 + k) then 1 else 0) 400
def hkN (l : List Int) (i j : Int) : Int := ga l i - j + legN l i j
theorem colN_fst {l : List Int} {j r : Int} (hp : Pt l) (hj : 0 ≤ j) (h : Fst (fun k => j < ga l k) r) : colN l j = r := by
  have hlen := hp.len
  have hr : r ≤ (l.length : Int) := by
    rcases Int.lt_or_le (l.length : Int) r with q | q
    · have : j < ga l (l.length : Int) := h.2.1 (l.length : Int) (by omega) q
      rw [ga_out (by omega)] at this
      omega
    · exact q
  unfold colN
  rw [sm_fst (P := fun k => j < ga l k) h.1 h.2.1 (fun k hk q => h.2.2 (by have := hp.2.2 r k h.1 hk; show j < ga l r; omega)), if_pos (by omega)]
theorem legN_fst {l : List Int} {i j r : Int} (hp : Pt l) (hi : 0 ≤ i) (hj : 0 ≤ j) (h : Fst (fun k => j < ga l (i + 1 + k)) r) : legN l i j = r ∧ r ≤ 400 := by
  have hlen := hp.len
  have hr : r ≤ (l.length : Int) := by
    rcases Int.lt_or_le (l.length : Int) r with q | q
    · have : j < ga l (i + 1 + (l.length : Int)) := h.2.1 (l.length : Int) (by omega) q
      rw [ga_out (by omega)] at this
      omega
    · exact q
  unfold legN
  rw [sm_fst (P := fun k => j < ga l (i + 1 + k)) h.1 h.2.1 (fun k hk q => h.2.2 (by have := hp.2.2 (i + 1 + r) (i + 1 + k) (by have := h.1; omega) (by omega); show j < ga l (i + 1 + r); omega)), if_pos (by omega)]
  exact ⟨rfl, by omega⟩
theorem t_Sum_hookAt_7 {Q : ZQ} {h : Nat} {l : List Int} {σ : ZM} {i j : Int} (o : SumO σ h) (hp : Pt l) (hl : Lz σ h l) (hi : 0 ≤ i) (hi2 : i ≤ 500) (hj : 0 ≤ j) (hj2 : j ≤ 500) (q : Q (zi (hkN l i j)) σ) : ∀ (k : Nat) (x : Int), 0 ≤ x → x + k = 401 → (∀ y, 0 ≤ y → y < x → j < ga l (i + 1 + y)) → WP m_Sum_hookAt 7 [zr h, zi i, zi j, zi x, zi (i + 1 + x)] [] σ (0, 0) Q := by
  have h3 := hl.2.2.1
  have h1 := hl.1
  have hr := hp.rng i
  have fin : ∀ x : Int, 0 ≤ x → x ≤ 401 → (∀ y, 0 ≤ y → y < x → j < ga l (i + 1 + y)) → ga l (i + 1 + x) ≤ j → WP m_Sum_at 0 [zr h, zi i] [] σ (0, 0) (fun r1 σ2 => zrI r1 (fun y3 => ((-2147483648 ≤ (y3 - j : Int) ∧ (y3 - j : Int) ≤ 2147483647) ∧ ((-2147483648 ≤ ((y3 - j) + x : Int) ∧ ((y3 - j) + x : Int) ≤ 2147483647) ∧ Q (zi ((y3 - j) + x)) σ2)))) := by
    intro x x0 x4 hb hn
    have := legN_fst (l := l) (i := i) (j := j) (r := x) hp hi hj ⟨x0, hb, by show ¬ j < ga l (i + 1 + x); omega⟩
    refine t_Sum_at o hl ⟨by omega, by omega, ?_⟩
    unfold hkN at q
    rw [this.1] at q
    exact q
  intro k
  induction k with
  | zero =>
    intro x x0 hk hb
    have hg : ga l (i + 1 + x) = 0 := ga_out (by omega)
    exact r_Sum_hookAt_7 ⟨o.1, fun c => ⟨o.1, fin x x0 (by omega) hb (by omega)⟩, fun c => absurd c (by omega)⟩
  | succ k ih =>
    intro x x0 hk hb
    refine r_Sum_hookAt_7 ⟨o.1, fun c => ⟨o.1, fin x x0 (by omega) hb ?_⟩, fun c => ⟨o.1, o.arr (by omega) (by omega), fun c2 => ⟨o.1, fin x x0 (by omega) hb ?_⟩, fun c2 => ⟨by omega, by omega, ?_⟩⟩⟩
    · rw [ga_out (by omega)]; exact hj
    · rw [o.2.1, hl.2.2.2 _ (by omega) (by omega)] at c2; exact c2
    · rw [o.2.1, hl.2.2.2 _ (by omega) (by omega)] at c2
      have := ih (x + 1) (by omega) (by omega) (fun y y0 y1 => by
        by_cases e : y = x
        · rw [e]; exact c2
        · exact hb y y0 (by omega))
      rw [show i + 1 + (x + 1) = i + 1 + x + 1 by omega] at this
      exact this
theorem t_Sum_hookAt {Q : ZQ} {h : Nat} {l : List Int} {σ : ZM} {i j : Int} (o : SumO σ h) (hp : Pt l) (hl : Lz σ h l) (hi : 0 ≤ i) (hi2 : i ≤ 500) (hj : 0 ≤ j) (hj2 : j ≤ 500) (q : Q (zi (hkN l i j)) σ) : WP m_Sum_hookAt 0 [zr h, zi i, zi j, zu, zu] [] σ (0, 0) Q := by
  refine r_Sum_hookAt_0 ⟨by omega, ?_⟩
  have := t_Sum_hookAt_7 o hp hl hi hi2 hj hj2 q 401 0 (by omega) (by omega) (fun y y0 y1 => by omega)
  rw [show i + 1 + (0 : Int) = i + 1 by omega] at this
  exact this
/-- a row in which there is a hook of t -/
def hasHk (l : List Int) (t i : Int) : Prop := ∃ j, 0 ≤ j ∧ j < ga l i ∧ hkN l i j = t
/-- the first row with a hook of t; -1 without one -/
def RowHk (l : List Int) (t r : Int) : Prop := (r = -1 ∧ ∀ i, 0 ≤ i → i < (l.length : Int) → ¬ hasHk l t i) ∨ (0 ≤ r ∧ r < (l.length : Int) ∧ hasHk l t r ∧ ∀ i, 0 ≤ i → i < r → ¬ hasHk l t i)
theorem t_Sum_frh_2 {Q : ZQ} {h : Nat} {l : List Int} {σ : ZM} {t : Int} (o : SumO σ h) (hp : Pt l) (hl : Lz σ h l) (q : ∀ r, RowHk l t r → Q (zi r) σ) : ∀ (k : Nat) (i : Int) (u : PV), 0 ≤ i → i + k = (l.length : Int) → (∀ y, 0 ≤ y → y < i → ¬ hasHk l t y) → WP m_Sum_firstRowWithHook 2 [zr h, zi t, zi i, u] [] σ (0, 0) Q := by
  have h3 := hl.2.2.1
  have h1 := hl.1
  intro k
  induction k with
  | zero =>
    intro i u i0 hk hb
    exact r_Sum_firstRowWithHook_2 ⟨o.1, fun c => q _ (Or.inl ⟨rfl, fun y y0 y1 => hb y y0 (by omega)⟩), fun c => absurd c (by omega)⟩
  | succ k ih =>
    intro i u i0 hk hb
    have hr := hp.rng i
    refine r_Sum_firstRowWithHook_2 ⟨o.1, fun c => absurd c (by omega), fun c => ?_⟩
    have inner : ∀ (m : Nat) (j : Int), 0 ≤ j → j + m = ga l i → (∀ y, 0 ≤ y → y < j → hkN l i y ≠ t) → WP m_Sum_firstRowWithHook 12 [zr h, zi t, zi i, zi j] [] σ (0, 0) Q := by
      intro m
      induction m with
      | zero =>
        intro j j0 hm hj
        refine r_Sum_firstRowWithHook_12 ⟨o.1, o.arr i0 (by omega), fun c2 => ⟨by omega, ih (i + 1) _ (by omega) (by omega) (fun y y0 y1 => ?_)⟩, fun c2 => ?_⟩
        · by_cases e : y = i
          · rw [e]
            rintro ⟨z, z0, z1, z2⟩
            exact hj z z0 (by omega) z2
          · exact hb y y0 (by omega)
        · rw [o.2.1, hl.2.2.2 _ i0 (by omega)] at c2
          omega
      | succ m ihm =>
        intro j j0 hm hj
        refine r_Sum_firstRowWithHook_12 ⟨o.1, o.arr i0 (by omega), fun c2 => ?_, fun c2 => ⟨o.1, t_Sum_hookAt o hp hl i0 (by omega) j0 (by omega) ⟨fun c3 => ⟨by omega, ?_⟩, fun c3 => q i (Or.inr ⟨i0, by omega, ⟨j, j0, by omega, c3⟩, hb⟩)⟩⟩⟩
        · rw [o.2.1, hl.2.2.2 _ i0 (by omega)] at c2
          omega
        · exact ihm (j + 1) (by omega) (by omega) (fun y y0 y1 => by
            by_cases e : y = j
            · rw [e]; exact c3
            · exact hj y y0 (by omega))
    exact inner (ga l i).toNat 0 (by omega) (by omega) (fun y y0 y1 => by omega)
theorem t_Sum_firstRowWithHook {Q : ZQ} {h : Nat} {l : List Int} {σ : ZM} {t : Int} (o : SumO σ h) (hp : Pt l) (hl : Lz σ h l) (q : ∀ r, RowHk l t r → Q (zi r) σ) : WP m_Sum_firstRowWithHook 0 [zr h, zi t, zu, zu] [] σ (0, 0) Q :=
  r_Sum_firstRowWithHook_0 (t_Sum_frh_2 o hp hl q l.length 0 _ (by omega) (by omega) (fun y y0 y1 => by omega))
/-- how many parts are 1 -/
def onesN (l : List Int) : Int := sm (fun i => if ga l i = 1 then 1 else 0) l.length
def crkN (l : List Int) : Int := if onesN l = 0 then ga l 0 else colN l (onesN l) - onesN l
theorem onesN_bd (l : List Int) : ∀ n : Nat, 0 ≤ sm (fun i => if ga l i = 1 then 1 else 0) n ∧ sm (fun i => if ga l i = 1 then 1 else 0) n ≤ n := fun n => by
  have := sm_bd (f := fun i => if ga l i = 1 then 1 else 0) (B := 1) n (fun j _ _ => by split <;> omega)
  omega
theorem t_Sum_crank_48 {Q : ZQ} {h : Nat} {l : List Int} {σ : ZM} {w : Int} (o : SumO σ h) (hp : Pt l) (hl : Lz σ h l) (w0 : 0 ≤ w) (w1 : w ≤ 400) (q : Q (zi (colN l w - w)) σ) : ∀ (k : Nat) (x : Int), 0 ≤ x → x + k = 401 → (∀ y, 0 ≤ y → y < x → w < ga l y) → WP m_Sum_crank 48 [zr h, zi w, zi x] [] σ (0, 0) Q := by
  have h3 := hl.2.2.1
  have h1 := hl.1
  intro k
  induction k with
  | zero =>
    intro x x0 hk hb
    have := colN_fst (l := l) (j := w) (r := x) hp w0 ⟨x0, hb, by show ¬ w < ga l x; rw [ga_out (by omega)]; omega⟩
    rw [this] at q
    exact r_Sum_crank_48 ⟨o.1, fun c => ⟨by omega, q⟩, fun c => absurd c (by omega)⟩
  | succ k ih =>
    intro x x0 hk hb
    refine r_Sum_crank_48 ⟨o.1, fun c => ⟨by omega, ?_⟩, fun c => ⟨o.1, o.arr x0 (by omega), fun c2 => ⟨by omega, ?_⟩, fun c2 => ⟨by omega, ?_⟩⟩⟩
    · have := colN_fst (l := l) (j := w) (r := x) hp w0 ⟨x0, hb, by show ¬ w < ga l x; rw [ga_out (by omega)]; omega⟩
      rw [this] at q
      exact q
    · rw [o.2.1, hl.2.2.2 _ x0 (by omega)] at c2
      have := colN_fst (l := l) (j := w) (r := x) hp w0 ⟨x0, hb, by show ¬ w < ga l x; omega⟩
      rw [this] at q
      exact q
    · rw [o.2.1, hl.2.2.2 _ x0 (by omega)] at c2
      exact ih (x + 1) (by omega) (by omega) (fun y y0 y1 => by
        by_cases e : y = x
        · rw [e]; exact c2
        · exact hb y y0 (by omega))
theorem t_Sum_crank {Q : ZQ} {h : Nat} {l : List Int} {σ : ZM} (o : SumO σ h) (hp : Pt l) (hl : Lz σ h l) (q : Q (zi (crkN l)) σ) : WP m_Sum_crank 0 [zr h, zu, zu] [] σ (0, 0) Q := by
  have h3 := hl.2.2.1
  have h1 := hl.1
  have key : ∀ (k i : Nat), i + k = l.length → WP m_Sum_crank 4 [zr h, zi (sm (fun i => if ga l i = 1 then 1 else 0) i), zi (i : Int)] [] σ (0, 0) Q := by
    intro k
    induction k with
    | zero =>
      intro i hk
      have : i = l.length := by omega
      subst this
      have hb := onesN_bd l l.length
      refine r_Sum_crank_4 ⟨o.1, fun _ => ⟨fun c => ?_, fun c => ⟨o.1, t_Sum_at o hl ?_⟩⟩, fun c => absurd c (by omega)⟩
      · refine t_Sum_crank_48 o hp hl hb.1 (by omega) ?_ 401 0 (by omega) (by omega) (fun y y0 y1 => by omega)
        unfold crkN at q
        rw [if_neg (show ¬ onesN l = 0 from c)] at q
        exact q
      · unfold crkN at q
        rw [if_pos (show onesN l = 0 from c)] at q
        exact q
    | succ k ih =>
      intro i hk
      have hb := onesN_bd l i
      have ih := ih (i + 1) (by omega)
      have e1 : sm (fun i => if ga l i = 1 then 1 else 0) (i + 1) = sm (fun i => if ga l i = 1 then 1 else 0) i + (if ga l (i : Int) = 1 then 1 else 0) := rfl
      rw [e1, Int.natCast_succ] at ih
      have e2 : zI σ (zR σ h 0) (i : Int) = ga l i := by rw [o.2.1]; exact hl.2.2.2 _ (by omega) (by omega)
      refine r_Sum_crank_4 ⟨o.1, fun c => absurd c (by omega), fun c => ⟨o.1, o.arr (by omega) (by omega), fun c2 => ⟨by omega, by omega, ?_⟩, fun c2 => ⟨by omega, by omega, ?_⟩⟩⟩
      · rw [e2] at c2; rw [if_neg c2] at ih; exact ih
      · rw [e2] at c2; rw [if_pos c2] at ih; exact ih
  exact r_Sum_crank_0 (key l.length 0 (by omega))
