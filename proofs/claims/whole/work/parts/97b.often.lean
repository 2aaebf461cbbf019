/-! lead 1: how often each value stands; the maths -/
def up1 (f : Int → Int) (a w : Int) : Int → Int := fun v => if v = a then w else f v
def cnO (l : List Int) (k : Nat) : Int → Int := fun v => sm (fun i => if ga l i = v then 1 else 0) k
def wS (f : Int → Int) : Int := sm (fun v => v * f v) 401
def OcP (f : Int → Int) : Prop := (∀ v, 0 ≤ v → v ≤ 400 → 0 ≤ f v) ∧ wS f ≤ 400
def Oc (σ : ZM) (a : Nat) (f : Int → Int) : Prop := ∀ v : Int, 0 ≤ v → v ≤ 400 → zI σ a v = f v
theorem Oc.w {σ : ZM} {a : Nat} {f : Int → Int} (h : Oc σ a f) (i x : Int) : Oc (wI σ a i x) a (up1 f i x) := fun v v0 v1 => by
  unfold up1
  rw [zI_wI]
  by_cases c : v = i
  · rw [if_pos ⟨rfl, c⟩, if_pos c]
  · rw [if_neg (fun w => c w.2), if_neg c]
    exact h v v0 v1
theorem Fr.oc {P : Nat → Prop} {σ σ' : ZM} (h : Fr P σ σ') {a : Nat} (h1 : ¬ P a) {f : Int → Int} (m : Oc σ a f) : Oc σ' a f := fun v v0 v1 => by
  rw [(h.2.2.2 _ h1).1]
  exact m v v0 v1
theorem sm_up1 {f : Int → Int} {a w : Int} (a0 : 0 ≤ a) : ∀ n : Nat, sm (fun v => v * up1 f a w v) n = sm (fun v => v * f v) n + (if a < (n : Int) then a * (w - f a) else 0)
  | 0 => by rw [if_neg (by omega)]; rfl
  | n + 1 => by
    show sm _ n + (n : Int) * up1 f a w (n : Int) = sm _ n + (n : Int) * f (n : Int) + _
    rw [sm_up1 a0 n]
    unfold up1
    by_cases c : (n : Int) = a
    · rw [if_neg (by omega), if_pos c, if_pos (by omega), ← c, Int.mul_sub]
      omega
    · rw [if_neg c]
      by_cases c2 : a < (n : Int)
      · rw [if_pos c2, if_pos (by omega)]
        omega
      · rw [if_neg c2, if_neg (by omega)]
        omega
theorem wS_up1 {f : Int → Int} {a w : Int} (a0 : 0 ≤ a) (a1 : a ≤ 400) : wS (up1 f a w) = wS f + a * (w - f a) := by
  unfold wS
  rw [sm_up1 a0, if_pos (by omega)]
theorem sm_term {f : Int → Int} : ∀ n : Nat, (∀ i : Int, 0 ≤ i → i < (n : Int) → 0 ≤ f i) → ∀ i : Int, 0 ≤ i → i < (n : Int) → f i ≤ sm f n
  | 0, _, i, i0, i1 => by omega
  | n + 1, h, i, i0, i1 => by
    have h0 := sm_ge0 n (fun i i0 i1 => h i i0 (by omega))
    have h1 := h (n : Int) (by omega) (by omega)
    show f i ≤ sm f n + f (n : Int)
    by_cases c : i = (n : Int)
    · rw [c]; omega
    · have := sm_term n (fun i i0 i1 => h i i0 (by omega)) i i0 (by omega)
      omega
theorem OcP.mul {f : Int → Int} (h : OcP f) {v : Int} (v0 : 0 ≤ v) (v1 : v ≤ 400) : v * f v ≤ 400 := by
  have := sm_term (f := fun v => v * f v) 401 (fun i i0 i1 => Int.mul_nonneg i0 (h.1 i i0 (by omega))) v v0 (by omega)
  have h2 := h.2
  unfold wS at h2
  exact Int.le_trans this h2
theorem OcP.le {f : Int → Int} (h : OcP f) {v : Int} (v0 : 1 ≤ v) (v1 : v ≤ 400) : 0 ≤ f v ∧ f v ≤ 400 := by
  have h1 := h.mul (v := v) (by omega) v1
  have h2 := h.1 v (by omega) v1
  have h3 : 1 * f v ≤ v * f v := Int.mul_le_mul_of_nonneg_right v0 h2
  omega
theorem cnO_succ {l : List Int} {k : Nat} : cnO l (k + 1) = up1 (cnO l k) (ga l (k : Int)) (cnO l k (ga l (k : Int)) + 1) := by
  funext v
  unfold up1
  show cnO l k v + (if ga l (k : Int) = v then 1 else 0) = _
  by_cases c : v = ga l (k : Int)
  · rw [if_pos c.symm, if_pos c, ← c]
  · rw [if_neg (fun w => c w.symm), if_neg c]
    omega
theorem cnO_ge {l : List Int} (k : Nat) (v : Int) : 0 ≤ cnO l k v ∧ cnO l k v ≤ (k : Int) := by
  have := sm_bd (f := fun i => if ga l i = v then 1 else 0) (B := 1) k (fun i i0 i1 => by split <;> omega)
  unfold cnO
  omega
theorem cnO_wS {l : List Int} (hp : Pt l) : ∀ k : Nat, k ≤ l.length → wS (cnO l k) = (l.take k).sum
  | 0, _ => by
    have : sm (fun v => v * cnO l 0 v) 401 = sm (fun _ => 0) 401 := sm_ext 401 (fun i i0 i1 => Int.mul_zero _)
    unfold wS
    rw [this, sm_zero]
    rfl
  | k + 1, h => by
    have hr := hp.rng (k : Int)
    have e := take_snoc (l := l) (i := (k : Int)) (by omega) (by omega)
    rw [show ((k : Int) + 1).toNat = k + 1 by omega, Int.toNat_natCast] at e
    rw [cnO_succ, wS_up1 hr.1 hr.2, cnO_wS hp k (by omega), e, List.sum_append]
    simp only [List.sum_cons, List.sum_nil]
    rw [show cnO l k (ga l (k : Int)) + 1 - cnO l k (ga l (k : Int)) = 1 by omega]
    omega
theorem cnO_OcP {l : List Int} (hp : Pt l) : OcP (cnO l l.length) := ⟨fun v _ _ => (cnO_ge _ v).1, by
  rw [cnO_wS hp _ (Nat.le_refl _), List.take_length]
  exact hp.2.1⟩
/-- one multiple cut up -/
def cutS (x : Int) (f : Int → Int) (v : Int) : Int → Int := if v % x = 0 then up1 (up1 f (v / x) (f (v / x) + x * f v)) v 0 else f
def cutF (x : Int) (f : Int → Int) : Nat → Int → Int
  | 0 => f
  | k + 1 => cutS x (cutF x f k) (400 - (k : Int))
/-- like ones put together -/
def gthS (x : Int) (f : Int → Int) (v : Int) : Int → Int := up1 (up1 f (v * x) (f (v * x) + f v / x)) v (f v % x)
def gthF (x : Int) (f : Int → Int) : Nat → Int → Int
  | 0 => f
  | k + 1 => if ((k : Int) + 1) * x ≤ 400 then gthS x (gthF x f k) ((k : Int) + 1) else gthF x f k
theorem div_lt {v x : Int} (v0 : 1 ≤ v) (x0 : 2 ≤ x) : 0 ≤ v / x ∧ v / x < v := by
  refine ⟨Int.ediv_nonneg (by omega) (by omega), ?_⟩
  refine Int.ediv_lt_of_lt_mul (by omega) ?_
  have : v * 2 ≤ v * x := Int.mul_le_mul_of_nonneg_left x0 (by omega)
  omega
theorem cutS_OcP {x v : Int} {f : Int → Int} (h : OcP f) (x0 : 2 ≤ x) (v0 : 1 ≤ v) (v1 : v ≤ 400) : OcP (cutS x f v) := by
  unfold cutS
  by_cases c : v % x = 0
  · rw [if_pos c]
    have d := div_lt v0 x0
    have f1 := h.1 v (by omega) v1
    have f2 := h.1 (v / x) (by omega) (by omega)
    have f3 : 0 ≤ x * f v := Int.mul_nonneg (by omega) f1
    refine ⟨fun u u0 u1 => ?_, ?_⟩
    · unfold up1
      by_cases c1 : u = v
      · rw [if_pos c1]; omega
      · rw [if_neg c1]
        by_cases c2 : u = v / x
        · rw [if_pos c2]; omega
        · rw [if_neg c2]
          exact h.1 u u0 u1
    · rw [wS_up1 (by omega) v1, wS_up1 d.1 (by omega)]
      have e1 : up1 f (v / x) (f (v / x) + x * f v) v = f v := by
        unfold up1
        rw [if_neg (by omega)]
      have e2 : v / x * (f (v / x) + x * f v - f (v / x)) = v * f v := by
        rw [show f (v / x) + x * f v - f (v / x) = x * f v by omega, ← Int.mul_assoc, Int.ediv_mul_cancel (Int.dvd_of_emod_eq_zero c)]
      have e3 : v * (0 - f v) = - (v * f v) := by rw [Int.zero_sub, Int.mul_neg]
      rw [e1, e2, e3]
      have := h.2
      omega
  · rw [if_neg c]
    exact h
theorem cutF_OcP {x : Int} {f : Int → Int} (h : OcP f) (x0 : 2 ≤ x) : ∀ k : Nat, k ≤ 400 → OcP (cutF x f k)
  | 0, _ => h
  | k + 1, c => cutS_OcP (cutF_OcP h x0 k (by omega)) x0 (by omega) (by omega)
theorem gthS_OcP {x v : Int} {f : Int → Int} (h : OcP f) (x0 : 2 ≤ x) (v0 : 1 ≤ v) (v1 : v ≤ 400) (hx : v * x ≤ 400) : OcP (gthS x f v) := by
  unfold gthS
  have f1 := h.1 v (by omega) v1
  have f4 : v * 2 ≤ v * x := Int.mul_le_mul_of_nonneg_left x0 (by omega)
  have f2 := h.1 (v * x) (by omega) hx
  have f3 : 0 ≤ f v / x := Int.ediv_nonneg f1 (by omega)
  have f5 : 0 ≤ f v % x := Int.emod_nonneg _ (by omega)
  refine ⟨fun u u0 u1 => ?_, ?_⟩
  · unfold up1
    by_cases c1 : u = v
    · rw [if_pos c1]; exact f5
    · rw [if_neg c1]
      by_cases c2 : u = v * x
      · rw [if_pos c2]; omega
      · rw [if_neg c2]
        exact h.1 u u0 u1
  · rw [wS_up1 (by omega) v1, wS_up1 (by omega) hx]
    have e1 : up1 f (v * x) (f (v * x) + f v / x) v = f v := by
      unfold up1
      rw [if_neg (by omega)]
    have e2 : v * x * (f (v * x) + f v / x - f (v * x)) = v * (x * (f v / x)) := by
      rw [show f (v * x) + f v / x - f (v * x) = f v / x by omega, Int.mul_assoc]
    have e4 := Int.mul_ediv_add_emod (f v) x
    have e3 : v * (f v % x - f v) = - (v * (x * (f v / x))) := by
      rw [show f v % x - f v = - (x * (f v / x)) by omega, Int.mul_neg]
    rw [e1, e2, e3]
    have := h.2
    omega
theorem gthF_OcP {x : Int} {f : Int → Int} (h : OcP f) (x0 : 2 ≤ x) : ∀ k : Nat, k ≤ 400 → OcP (gthF x f k)
  | 0, _ => h
  | k + 1, c => by
    show OcP (if ((k : Int) + 1) * x ≤ 400 then gthS x (gthF x f k) ((k : Int) + 1) else gthF x f k)
    by_cases c2 : ((k : Int) + 1) * x ≤ 400
    · rw [if_pos c2]
      exact gthS_OcP (gthF_OcP h x0 k (by omega)) x0 (by omega) (by omega) c2
    · rw [if_neg c2]
      exact gthF_OcP h x0 k (by omega)
theorem gthF_stop {x : Int} {f : Int → Int} {k : Nat} (x0 : 2 ≤ x) (h : 400 < ((k : Int) + 1) * x) : ∀ e : Nat, gthF x f (k + e) = gthF x f k
  | 0 => rfl
  | e + 1 => by
    show (if (((k + e : Nat) : Int) + 1) * x ≤ 400 then gthS x (gthF x f (k + e)) (((k + e : Nat) : Int) + 1) else gthF x f (k + e)) = _
    rw [if_neg (by
      have : ((k : Int) + 1) * x ≤ (((k + e : Nat) : Int) + 1) * x := Int.mul_le_mul_of_nonneg_right (by omega) (by omega)
      omega)]
    exact gthF_stop x0 h e
theorem gthS_id {x v : Int} {f : Int → Int} (x0 : 2 ≤ x) (v0 : 1 ≤ v) (h0 : 0 ≤ f v) (h1 : f v < x) : gthS x f v = f := by
  unfold gthS
  rw [Int.ediv_eq_zero_of_lt h0 h1, Int.emod_eq_of_lt h0 h1]
  funext u
  unfold up1
  by_cases c1 : u = v
  · rw [if_pos c1, c1]
  · rw [if_neg c1]
    by_cases c2 : u = v * x
    · rw [if_pos c2, c2]; omega
    · rw [if_neg c2]
/-- the parts, written down from the highest -/
def oL (f : Int → Int) : Nat → List Int
  | 0 => []
  | k + 1 => oL f k ++ List.replicate (f (400 - (k : Int))).toNat (400 - (k : Int))
theorem sm_rev {g : Int → Int} : ∀ k : Nat, k ≤ 401 → sm (fun j => g (400 - j)) k + sm g (401 - k) = sm g 401
  | 0, _ => by
    show 0 + sm g 401 = _
    omega
  | k + 1, h => by
    have ih := sm_rev (g := g) k (by omega)
    have e : sm g (401 - k) = sm g (401 - (k + 1)) + g (400 - (k : Int)) := by
      have : sm g ((401 - (k + 1)) + 1) = sm g (401 - (k + 1)) + g ((401 - (k + 1) : Nat) : Int) := rfl
      rw [show (401 - (k + 1)) + 1 = 401 - k by omega, show ((401 - (k + 1) : Nat) : Int) = 400 - (k : Int) by omega] at this
      exact this
    show sm (fun j => g (400 - j)) k + g (400 - (k : Int)) + _ = _
    omega
theorem oL_sum {f : Int → Int} (h : OcP f) : ∀ k : Nat, k ≤ 400 → (oL f k).sum = sm (fun j => (400 - j) * f (400 - j)) k
  | 0, _ => rfl
  | k + 1, c => by
    have h1 := h.1 (400 - (k : Int)) (by omega) (by omega)
    show (oL f k ++ List.replicate (f (400 - (k : Int))).toNat (400 - (k : Int))).sum = sm (fun j => (400 - j) * f (400 - j)) k + (400 - (k : Int)) * f (400 - (k : Int))
    rw [List.sum_append, oL_sum h k (by omega), List.sum_replicate_int, show ((f (400 - (k : Int))).toNat : Int) = f (400 - (k : Int)) by omega, Int.mul_comm]
theorem oL_bd {f : Int → Int} (h : OcP f) (k : Nat) (c : k ≤ 400) : (oL f k).sum ≤ 400 := by
  have h1 := oL_sum h k c
  have h2 := sm_rev (g := fun v => v * f v) k (by omega)
  have h3 := sm_ge0 (f := fun v => v * f v) (401 - k) (fun i i0 i1 => Int.mul_nonneg i0 (h.1 i i0 (by omega)))
  have h4 := h.2
  unfold wS at h4
  omega
theorem Pt_rep {v : Int} (hv : 1 ≤ v) : ∀ (n : Nat) (acc : List Int), Pt acc → (∀ y ∈ acc, v ≤ y) → acc.sum + (n : Int) * v ≤ 400 → Pt (acc ++ List.replicate n v) ∧ ∀ y ∈ acc ++ List.replicate n v, v ≤ y
  | 0, acc, hp, ha, _ => by
    rw [List.replicate_zero, List.append_nil]
    exact ⟨hp, ha⟩
  | n + 1, acc, hp, ha, hs => by
    have e : acc ++ List.replicate (n + 1) v = (acc ++ [v]) ++ List.replicate n v := by
      rw [List.replicate_succ, List.append_assoc]
      rfl
    have n0 : 0 ≤ (n : Int) * v := Int.mul_nonneg (by omega) (by omega)
    rw [show ((n + 1 : Nat) : Int) * v = (n : Int) * v + v by rw [Int.natCast_succ, Int.add_mul, Int.one_mul]] at hs
    rw [e]
    refine Pt_rep hv n (acc ++ [v]) (Pt_snoc hp hv ?_ (by omega)) (fun y hy => ?_) (by rw [List.sum_append]; simp only [List.sum_cons, List.sum_nil]; omega)
    · by_cases c : (acc.length : Int) = 0
      · exact Or.inl c
      · exact Or.inr (ha _ (ga_mem (by omega) (by omega)))
    · rw [List.mem_append, List.mem_singleton] at hy
      rcases hy with w | w
      · exact ha y w
      · rw [w]; exact Int.le_refl _
theorem oL_Pt' {f : Int → Int} (h : OcP f) : ∀ k : Nat, k ≤ 400 → Pt (oL f k) ∧ ∀ y ∈ oL f k, 401 - (k : Int) ≤ y
  | 0, _ => ⟨Pt_tbl (f := fun _ => 0) 0 (fun i i0 i1 => by omega) (by show (0 : Int) ≤ 400; omega) (fun i i0 i1 => by omega), fun y hy => (by cases hy)⟩
  | k + 1, c => by
    have ih := oL_Pt' h k (by omega)
    have h1 := h.1 (400 - (k : Int)) (by omega) (by omega)
    have hb := oL_bd h (k + 1) c
    have e : oL f (k + 1) = oL f k ++ List.replicate (f (400 - (k : Int))).toNat (400 - (k : Int)) := rfl
    rw [e, List.sum_append, List.sum_replicate_int] at hb
    rw [e]
    have := Pt_rep (v := 400 - (k : Int)) (by omega) (f (400 - (k : Int))).toNat (oL f k) ih.1 (fun y hy => by have := ih.2 y hy; omega) hb
    exact ⟨this.1, fun y hy => by have := this.2 y hy; omega⟩
theorem oL_Pt {f : Int → Int} (h : OcP f) : Pt (oL f 400) := (oL_Pt' h 400 (Nat.le_refl _)).1
theorem sm_minus {f g : Int → Int} : ∀ n : Nat, sm (fun i => f i - g i) n = sm f n - sm g n
  | 0 => rfl
  | n + 1 => by
    show sm (fun i => f i - g i) n + (f n - g n) = (sm f n + f n) - (sm g n + g n)
    rw [sm_minus n]
    omega
theorem cnO_col {l : List Int} (hp : Pt l) {v : Int} (v0 : 1 ≤ v) : cnO l l.length v = colN l (v - 1) - colN l v := by
  rw [← sm_len hp (w := v) (by omega), ← sm_len hp (w := v - 1) (by omega), ← sm_minus]
  refine sm_ext _ (fun i i0 i1 => ?_)
  show (if ga l i = v then (1 : Int) else 0) = (if v - 1 < ga l i then 1 else 0) - (if v < ga l i then 1 else 0)
  split <;> split <;> (try split) <;> omega
theorem below_iff {l : List Int} (hp : Pt l) {x : Int} (x0 : 2 ≤ x) : (∃ v, 1 ≤ v ∧ v ≤ 400 ∧ x ≤ cnO l l.length v) ↔ tmL l x := by
  constructor
  · rintro ⟨v, v0, v1, h⟩
    rw [cnO_col hp v0] at h
    have h1 := (colN_isFst (j := v - 1) hp (by omega)).1
    have h2 := (colN_isFst (j := v) hp (by omega)).1
    have hlen : colN l (v - 1) ≤ (l.length : Int) := by
      rcases Int.lt_or_le (l.length : Int) (colN l (v - 1)) with w | w
      · have h3 : v - 1 < ga l (l.length : Int) := h1.2.1 (l.length : Int) (by omega) w
        rw [ga_out (Int.le_refl _)] at h3
        omega
      · exact w
    have c0 : 0 ≤ colN l v := h2.1
    have a1 : v - 1 < ga l (colN l v + x - 1) := h1.2.1 _ (by omega) (by omega)
    have a2 : ¬ v < ga l (colN l v) := h2.2.2
    have a3 := hp.2.2 (colN l v) (colN l v + x - 1) c0 (by omega)
    refine ⟨colN l v + x - 1, by omega, by omega, ?_⟩
    rw [show colN l v + x - 1 - x + 1 = colN l v by omega]
    omega
  · rintro ⟨i, i0, i1, h⟩
    have hv := hp.pos (i := i) (by omega) i1
    have hr := hp.rng i
    refine ⟨ga l i, hv, hr.2, ?_⟩
    rw [cnO_col hp hv]
    have h1 := (colN_isFst (j := ga l i - 1) hp (by omega)).1
    have h2 := (colN_isFst (j := ga l i) hp (by omega)).1
    have b1 : i < colN l (ga l i - 1) := by
      rcases Int.lt_or_le i (colN l (ga l i - 1)) with w | w
      · exact w
      · have w1 : ¬ ga l i - 1 < ga l (colN l (ga l i - 1)) := h1.2.2
        have w2 := hp.2.2 (colN l (ga l i - 1)) i h1.1 w
        omega
    have b2 : colN l (ga l i) ≤ i - x + 1 := by
      rcases Int.lt_or_le (i - x + 1) (colN l (ga l i)) with w | w
      · have w1 : ga l i < ga l (i - x + 1) := h2.2.1 (i - x + 1) (by omega) w
        omega
      · exact w
    omega
