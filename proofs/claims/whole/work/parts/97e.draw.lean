/-! lead 2 and 3: the maths of drawn hooks -/
theorem sm_swap {F : Int → Int → Int} (m : Nat) : ∀ n : Nat, sm (fun i => sm (fun j => F i j) m) n = sm (fun j => sm (fun i => F i j) n) m
  | 0 => (sm_zero m).symm
  | n + 1 => by
    show sm (fun i => sm (fun j => F i j) m) n + sm (fun j => F (n : Int) j) m = _
    rw [sm_swap m n, ← sm_plus]
    rfl
theorem sm_iv {a b : Int} (a0 : 0 ≤ a) (h : a ≤ b + 1) : ∀ n : Nat, sm (fun i => if a ≤ i ∧ i ≤ b then 1 else 0) n = max 0 (min (b + 1) (n : Int) - a)
  | 0 => by
    show (0 : Int) = _
    omega
  | n + 1 => by
    show sm _ n + (if a ≤ (n : Int) ∧ (n : Int) ≤ b then 1 else 0) = _
    rw [sm_iv a0 h n]
    split <;> omega
theorem sm_lt {c : Int} (c0 : 0 ≤ c) : ∀ n : Nat, sm (fun i => if i < c then 1 else 0) n = min c (n : Int)
  | 0 => by
    show (0 : Int) = _
    omega
  | n + 1 => by
    show sm _ n + (if (n : Int) < c then 1 else 0) = _
    rw [sm_lt c0 n]
    split <;> omega
theorem sm_cut {A : Int → Int} {d : Nat} : ∀ e : Nat, sm (fun i => if i < (d : Int) then A i else 0) (d + e) = sm A d
  | 0 => sm_ext d (fun i i0 i1 => if_pos i1)
  | e + 1 => by
    show sm _ (d + e) + (if ((d + e : Nat) : Int) < (d : Int) then A ((d + e : Nat) : Int) else 0) = _
    rw [sm_cut e, if_neg (by omega)]
    omega
theorem sm_tail {F : Int → Int} {d : Nat} (h : ∀ i : Int, (d : Int) ≤ i → F i = 0) : ∀ e : Nat, sm F (d + e) = sm F d
  | 0 => rfl
  | e + 1 => by
    show sm F (d + e) + F ((d + e : Nat) : Int) = _
    rw [sm_tail h e, h _ (by omega)]
    omega
theorem sm_odd {c : Int} : ∀ n : Nat, sm (fun j => c - 2 * j - 1) n = c * (n : Int) - (n : Int) * (n : Int)
  | 0 => by
    rw [show ((0 : Nat) : Int) = 0 by rfl, Int.mul_zero, Int.mul_zero]
    rfl
  | n + 1 => by
    show sm _ n + (c - 2 * (n : Int) - 1) = _
    rw [sm_odd n, Int.natCast_succ, Int.mul_add, Int.mul_one, Int.mul_add, Int.add_mul, Int.mul_one, Int.one_mul]
    omega
/-- hooks on the diagonal are worth no more than all -/
theorem dg_le {f : Int → Int} (f0 : ∀ i, 0 ≤ f i) {d : Nat} (hd : d ≤ 400) : sm (fun j => f j + sm (fun k => if j < f k then 1 else 0) 400 - 2 * j - 1) d ≤ sm f 400 := by
  have h1 : sm (fun j => f j + sm (fun k => if j < f k then 1 else 0) 400 - 2 * j - 1) d = sm (fun j => f j - 2 * j - 1) d + sm (fun j => sm (fun k => if j < f k then 1 else 0) 400) d := by
    rw [← sm_plus]
    refine sm_ext d (fun i i0 i1 => ?_)
    show f i + sm (fun k => if i < f k then 1 else 0) 400 - 2 * i - 1 = f i - 2 * i - 1 + sm (fun k => if i < f k then 1 else 0) 400
    omega
  have h2 : sm (fun j => sm (fun k => if j < f k then 1 else 0) 400) d = sm (fun k => min (f k) (d : Int)) 400 := by
    rw [sm_swap]
    exact sm_ext 400 (fun k _ _ => sm_lt (f0 k) d)
  have h3 : sm (fun k => min (f k) (d : Int)) 400 ≤ sm (fun k => (if k < (d : Int) then (d : Int) - f k else 0) + f k) 400 := by
    refine sm_mono 400 (fun k _ _ => ?_)
    show min (f k) (d : Int) ≤ (if k < (d : Int) then (d : Int) - f k else 0) + f k
    split <;> omega
  have h4 : sm (fun k => (if k < (d : Int) then (d : Int) - f k else 0) + f k) 400 = sm (fun k => (d : Int) - f k) d + sm f 400 := by
    rw [sm_plus]
    have := sm_cut (A := fun k => (d : Int) - f k) (d := d) (400 - d)
    rw [show d + (400 - d) = 400 by omega] at this
    rw [this]
  have h5 : sm (fun j => f j - 2 * j - 1) d + sm (fun k => (d : Int) - f k) d = 0 := by
    rw [← sm_plus, sm_ext (g := fun j => (d : Int) - 2 * j - 1) d (fun i i0 i1 => by show f i - 2 * i - 1 + ((d : Int) - f i) = (d : Int) - 2 * i - 1; omega), sm_odd]
    omega
  omega
/-- row `row` of the SUM that has these arms and legs -/
def drR (A L : Int → Int) (d : Nat) (row : Int) : Int := (if row < (d : Int) then A row else 0) + sm (fun k => if k ≤ row ∧ row ≤ k + L k then 1 else 0) d
def drH (L : Int → Int) (d : Nat) : Nat := if d = 0 then 0 else (L 0 + 1).toNat
def DrP (A L : Int → Int) (d : Nat) : Prop := (∀ k, 0 ≤ k → k < (d : Int) → 0 ≤ A k ∧ 0 ≤ L k) ∧ (∀ k, 0 ≤ k → k + 1 < (d : Int) → A (k + 1) < A k ∧ L (k + 1) < L k) ∧ sm (fun k => A k + L k + 1) d ≤ 400
theorem DrP.anti {A L : Int → Int} {d : Nat} (h : DrP A L d) {k : Int} (k0 : 0 ≤ k) : ∀ e : Nat, k + e < (d : Int) → k + e + L (k + e) ≤ k + L k
  | 0, _ => by rw [show k + ((0 : Nat) : Int) = k by omega]; omega
  | e + 1, c => by
    have h1 := DrP.anti h k0 e (by omega)
    have h2 := (h.2.1 (k + e) (by omega) (by omega)).2
    rw [show k + ((e + 1 : Nat) : Int) = k + e + 1 by omega]
    omega
theorem DrP.anti' {A L : Int → Int} {d : Nat} (h : DrP A L d) {k j : Int} (k0 : 0 ≤ k) (kj : k ≤ j) (jd : j < (d : Int)) : j + L j ≤ k + L k := by
  have := h.anti k0 (j - k).toNat (by omega)
  rw [show k + (((j - k).toNat : Nat) : Int) = j by omega] at this
  exact this
theorem DrP.low {A L : Int → Int} {d : Nat} (h : DrP A L d) {row : Int} (r0 : 0 ≤ row) (r1 : row < (d : Int)) : drR A L d row = A row + row + 1 := by
  unfold drR
  rw [if_pos r1]
  have h1 := (h.1 row r0 r1).2
  have := sm_fst (P := fun k => k ≤ row ∧ row ≤ k + L k) (r := row + 1) (by omega) (fun k k0 k1 => ⟨by omega, by
    have := h.anti' k0 (show k ≤ row by omega) r1
    omega⟩) (fun k k1 w => by omega) d
  rw [this, if_pos (by omega)]
  omega
theorem DrP.high {A L : Int → Int} {d : Nat} (h : DrP A L d) {row c : Int} (r0 : (d : Int) ≤ row) (c0 : 0 ≤ c) (cd : c ≤ (d : Int)) (h1 : ∀ k, 0 ≤ k → k < c → row ≤ k + L k) (h2 : c < (d : Int) → c + L c < row) : drR A L d row = c := by
  unfold drR
  rw [if_neg (by omega)]
  have e : sm (fun k => if k ≤ row ∧ row ≤ k + L k then 1 else 0) d = sm (fun k => if k < (d : Int) ∧ row ≤ k + L k then 1 else 0) d := by
    refine sm_ext d (fun i i0 i1 => ?_)
    show (if i ≤ row ∧ row ≤ i + L i then (1 : Int) else 0) = if i < (d : Int) ∧ row ≤ i + L i then 1 else 0
    by_cases w : row ≤ i + L i
    · rw [if_pos ⟨by omega, w⟩, if_pos ⟨i1, w⟩]
    · rw [if_neg (fun v => w v.2), if_neg (fun v => w v.2)]
  rw [e, sm_fst (P := fun k => k < (d : Int) ∧ row ≤ k + L k) (r := c) c0 (fun k k0 k1 => ⟨by omega, h1 k k0 k1⟩) (fun k k1 w => by
    have h3 := h.anti' c0 k1 w.1
    have h4 := h2 (by omega)
    have := w.2
    omega) d, if_pos cd]
  omega
theorem DrP.len {A L : Int → Int} {d : Nat} (h : DrP A L d) : d ≤ 400 := by
  have := sm_mono (f := fun _ => 1) (g := fun k => A k + L k + 1) d (fun i i0 i1 => by
    have := h.1 i i0 i1
    show (1 : Int) ≤ A i + L i + 1
    omega)
  have e : ∀ n : Nat, sm (fun _ => 1) n = (n : Int) := fun n => by
    induction n with
    | zero => rfl
    | succ n ih =>
      show sm (fun _ => 1) n + 1 = _
      rw [ih]
      omega
  rw [e] at this
  have := h.2.2
  omega
theorem DrP.hgt {A L : Int → Int} {d : Nat} (h : DrP A L d) : d ≤ drH L d ∧ (0 < d → (drH L d : Int) = L 0 + 1) := by
  unfold drH
  by_cases c : d = 0
  · rw [if_pos c]
    exact ⟨by omega, fun w => by omega⟩
  · rw [if_neg c]
    have h1 := h.anti' (k := 0) (j := (d : Int) - 1) (by omega) (by omega) (by omega)
    have h2 := (h.1 ((d : Int) - 1) (by omega) (by omega)).2
    exact ⟨by omega, fun _ => by omega⟩
theorem DrP.sum {A L : Int → Int} {d : Nat} (h : DrP A L d) : sm (drR A L d) (drH L d) = sm (fun k => A k + L k + 1) d := by
  have hh := h.hgt
  have e1 : sm (drR A L d) (drH L d) = sm (fun i => if i < (d : Int) then A i else 0) (drH L d) + sm (fun row => sm (fun k => if k ≤ row ∧ row ≤ k + L k then 1 else 0) d) (drH L d) := by
    rw [← sm_plus]
    rfl
  have e2 := sm_cut (A := A) (d := d) (drH L d - d)
  rw [show d + (drH L d - d) = drH L d by omega] at e2
  rw [e1, e2, sm_swap, ← sm_plus]
  refine sm_ext d (fun k k0 k1 => ?_)
  show A k + sm (fun i => if k ≤ i ∧ i ≤ k + L k then 1 else 0) (drH L d) = A k + L k + 1
  have h1 := (h.1 k k0 k1).2
  have h2 := h.anti' (k := 0) (j := k) (by omega) k0 k1
  have h3 := hh.2 (by omega)
  rw [sm_iv k0 (by omega)]
  omega
theorem DrP.bd {A L : Int → Int} {d : Nat} (row : Int) : 0 ≤ sm (fun k => if k ≤ row ∧ row ≤ k + L k then 1 else 0) d ∧ sm (fun k => if k ≤ row ∧ row ≤ k + L k then 1 else 0) d ≤ (d : Int) := by
  have := sm_bd (f := fun k => if k ≤ row ∧ row ≤ k + L k then 1 else 0) (B := 1) d (fun i i0 i1 => by split <;> omega)
  omega
theorem DrP.pos {A L : Int → Int} {d : Nat} (h : DrP A L d) {row : Int} (r0 : 0 ≤ row) (r1 : row < (drH L d : Int)) : 1 ≤ drR A L d row := by
  by_cases c : row < (d : Int)
  · rw [h.low r0 c]
    have := (h.1 row r0 c).1
    omega
  · have hd : 0 < d := by
      rcases Nat.eq_zero_or_pos d with w | w
      · unfold drH at r1
        rw [if_pos w] at r1
        omega
      · exact w
    have h3 := h.hgt.2 hd
    have := sm_term (f := fun k => if k ≤ row ∧ row ≤ k + L k then 1 else 0) d (fun i i0 i1 => by show (0 : Int) ≤ if i ≤ row ∧ row ≤ i + L i then 1 else 0; split <;> omega) 0 (by omega) (by omega)
    have e : (if (0 : Int) ≤ row ∧ row ≤ 0 + L 0 then (1 : Int) else 0) = 1 := if_pos ⟨r0, by omega⟩
    have this' : (if (0 : Int) ≤ row ∧ row ≤ 0 + L 0 then (1 : Int) else 0) ≤ sm (fun k => if k ≤ row ∧ row ≤ k + L k then 1 else 0) d := this
    unfold drR
    rw [if_neg c]
    omega
theorem DrP.down {A L : Int → Int} {d : Nat} (h : DrP A L d) {row : Int} (r0 : 0 ≤ row) : drR A L d (row + 1) ≤ drR A L d row := by
  by_cases c : row + 1 < (d : Int)
  · rw [h.low r0 (by omega), h.low (by omega) c]
    have := (h.2.1 row r0 c).1
    omega
  · by_cases c2 : row < (d : Int)
    · rw [h.low r0 c2]
      unfold drR
      rw [if_neg c]
      have h1 := DrP.bd (A := A) (L := L) (d := d) (row + 1)
      have h2 := (h.1 row r0 c2).1
      omega
    · unfold drR
      rw [if_neg c, if_neg c2]
      have := sm_mono (f := fun k => if k ≤ row + 1 ∧ row + 1 ≤ k + L k then 1 else 0) (g := fun k => if k ≤ row ∧ row ≤ k + L k then 1 else 0) d (fun k k0 k1 => by
        show (if k ≤ row + 1 ∧ row + 1 ≤ k + L k then (1 : Int) else 0) ≤ if k ≤ row ∧ row ≤ k + L k then 1 else 0
        split <;> split <;> omega)
      omega
def drL (A L : Int → Int) (d : Nat) : List Int := tbl (drR A L d) (drH L d)
theorem DrP.isPt {A L : Int → Int} {d : Nat} (h : DrP A L d) : Pt (drL A L d) := Pt_tbl (drH L d) (fun i i0 i1 => h.pos i0 i1) (by rw [h.sum]; exact h.2.2) (fun i i0 _ => h.down i0)
theorem sm_le {F : Int → Int} {n : Nat} (h : ∀ i : Int, 0 ≤ i → i < (n : Int) → 0 ≤ F i) : ∀ e j : Nat, j + e = n → sm F j ≤ sm F n
  | 0, j, hj => by rw [show j = n by omega]; exact Int.le_refl _
  | e + 1, j, hj => by
    have h1 := sm_le h e (j + 1) (by omega)
    have h2 := h (j : Int) (by omega) (by omega)
    have h3 : sm F (j + 1) = sm F j + F (j : Int) := rfl
    omega
/-- while a told SUM is being written, there is room -/
theorem Pt.room {f : Int → Int} {n j : Nat} (h : Pt (tbl f n)) (hj : j < n) : (tbl f j).length < 400 ∧ (0 ≤ (tbl f j).sum ∧ (tbl f j).sum + f (j : Int) ≤ 400) ∧ 1 ≤ f (j : Int) := by
  have hn := h.len
  have h4 := h.2.1
  have pos : ∀ i : Int, 0 ≤ i → i < (n : Int) → 1 ≤ f i := fun i i0 i1 => by
    have := h.pos (i := i) i0 (by rw [tbl_len]; exact i1)
    rw [ga_tbl i0 i1] at this
    exact this
  rw [tbl_len] at hn
  have h1 := sm_le (F := f) (n := n) (fun i i0 i1 => by have := pos i i0 i1; omega) (n - (j + 1)) (j + 1) (by omega)
  have h2 : sm f (j + 1) = sm f j + f (j : Int) := rfl
  have h3 := sm_ge0 (f := f) j (fun i i0 i1 => by have := pos i i0 (by omega); omega)
  rw [tbl_sum] at h4
  rw [tbl_len, tbl_sum]
  exact ⟨by omega, ⟨h3, by omega⟩, pos _ (by omega) (by omega)⟩
/-- lead 2: half a part -/
def hfL (l : List Int) (k : Int) : Int := ga l k / 2
theorem hfL_DrP {l : List Int} (hp : Pt l) (hu : unL l) (ho : odL l) : DrP (hfL l) (hfL l) l.length := by
  refine ⟨fun k k0 k1 => ?_, fun k k0 k1 => ?_, ?_⟩
  · have := hp.rng k
    unfold hfL
    omega
  · have h1 := ho k k0 (by omega)
    have h2 := ho (k + 1) (by omega) k1
    have h3 := hu k k0 (by omega)
    unfold hfL
    omega
  · have e := sm_ga (l := l) l.length
    rw [List.take_length] at e
    have h4 := hp.2.1
    rw [sm_ext (g := fun k => ga l k) l.length (fun i i0 i1 => by
      have := ho i i0 i1
      show hfL l i + hfL l i + 1 = ga l i
      unfold hfL
      omega), e]
    exact h4
/-- lead 2, back -/
def ohR (l : List Int) (i : Int) : Int := 2 * (ga l i - i) - 1
theorem ohR_Pt {l : List Int} {d : Nat} (hp : Pt l) (ho : owL l) (h : ∀ i : Int, 0 ≤ i → i < (d : Int) → i < ga l i) : Pt (tbl (ohR l) d) := by
  have hlen := hp.len
  have dl : (d : Int) ≤ (l.length : Int) := by
    rcases Int.lt_or_le (l.length : Int) (d : Int) with w | w
    · have := h (l.length : Int) (by omega) w
      rw [ga_out (Int.le_refl _)] at this
      omega
    · exact w
  refine Pt_tbl d (fun i i0 i1 => ?_) ?_ (fun i i0 i1 => ?_)
  · have := h i i0 i1
    unfold ohR
    omega
  · have h1 := dg_le (f := ga l) (fun i => (hp.rng i).1) (d := d) (by omega)
    have h2 := sm_ga (l := l) 400
    rw [List.take_of_length_le (by omega)] at h2
    have h3 := hp.2.1
    have e : sm (ohR l) d = sm (fun j => ga l j + sm (fun k => if j < ga l k then 1 else 0) 400 - 2 * j - 1) d := by
      refine sm_ext d (fun i i0 i1 => ?_)
      have h4 : ga l i = sm (fun k => if i < ga l k then 1 else 0) 400 := ho i i0 (by omega)
      show 2 * (ga l i - i) - 1 = ga l i + sm (fun k => if i < ga l k then 1 else 0) 400 - 2 * i - 1
      omega
    have h2' : sm (ga l) 400 = l.sum := h2
    omega
  · have := hp.2.2 i (i + 1) i0 (by omega)
    unfold ohR
    omega
