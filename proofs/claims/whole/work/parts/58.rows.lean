/-! Rows, of the class -/
theorem t_setZero {Q : ZQ} {σ : ZM} {a : Nat} (r : IsRow σ a) (q : ∀ σ', RV0 σ' a (fun _ => 0) → Fr (fun b => b = a) σ σ' → Q zu σ') : WP m_Rows_setZero 0 [zr a, zu] [] σ (0, 0) Q := by
  have key : ∀ (m x : Nat) (τ : ZM), x + m = 401 → (∀ n : Nat, n < x → zJ τ a (n : Int) = 0) → Fr (fun b => b = a) σ τ → WP m_Rows_setZero 2 [zr a, zi (x : Int)] [] τ (0, 0) Q := by
    intro m
    induction m with
    | zero =>
      intro x τ hm hv f
      obtain ⟨l1, l2⟩ := (f.row r).len
      refine r_Rows_setZero_2 ⟨l1, ?_⟩
      rw [l2]
      exact ⟨fun _ => q τ (fun n hn => hv n (by omega)) f, fun c => by omega⟩
    | succ m ih =>
      intro x τ hm hv f
      obtain ⟨l1, l2⟩ := (f.row r).len
      refine r_Rows_setZero_2 ⟨l1, ?_⟩
      rw [l2]
      refine ⟨fun c => by omega, fun _ => ⟨(f.row r).arr (by omega) (by omega), by omega, ?_⟩⟩
      have := ih (x + 1) (wJ τ a (x : Int) 0) (by omega) (fun n hn => ?_) (f.tr (Fr.wJ rfl))
      · rw [Int.natCast_succ] at this
        exact this
      · rw [zJ_wJ]
        split
        · rfl
        · exact hv n (by omega)
  exact r_Rows_setZero_0 (key 401 0 σ (by omega) (fun n hn => by omega) Fr.rf)
theorem t_setOne {Q : ZQ} {σ : ZM} {a : Nat} (r : IsRow σ a) (q : ∀ σ', RV0 σ' a oneS → Fr (fun b => b = a) σ σ' → Q zu σ') : WP m_Rows_setOne 0 [zr a] [] σ (0, 0) Q := by
  refine r_Rows_setOne_0 (t_setZero r (fun τ k1 k2 => ?_))
  obtain ⟨l1, l2⟩ := (k2.row r).len
  refine ⟨l1, ?_⟩
  rw [l2]
  refine ⟨fun c => by omega, fun _ => ⟨(k2.row r).arr (by omega) (by omega), q _ (fun n hn => ?_) (k2.tr (Fr.wJ rfl))⟩⟩
  rw [zJ_wJ]
  unfold oneS
  by_cases e : n = 0
  · rw [if_pos ⟨rfl, by omega⟩, if_pos e]
  · rw [if_neg (by omega), if_neg e]
    exact k1 n hn
theorem mul_bd {x y : Int} {X Y : Nat} (h1 : -(X : Int) ≤ x ∧ x ≤ X) (h2 : -(Y : Int) ≤ y ∧ y ≤ Y) : -((X * Y : Nat) : Int) ≤ x * y ∧ x * y ≤ ((X * Y : Nat) : Int) := by
  have e : (x * y).natAbs = x.natAbs * y.natAbs := Int.natAbs_mul x y
  have h : x.natAbs * y.natAbs ≤ X * Y := Nat.mul_le_mul (by omega) (by omega)
  omega
/-- where the sign of k stands -/
def plS (a b k : Int) : Int := Int.tdiv (a * k * k + b * k) 2
theorem sg_pos {a b k : Int} (a1 : 1 ≤ a) (b0 : 1 - a ≤ b) (b1 : b ≤ a - 1) (c : Int) (c0 : 0 ≤ c) (hk : c ≤ k ∨ k ≤ -c) (hc : 1 ≤ c) : c * c ≤ a * k * k + b * k := by
  have main : ∀ j d : Int, c ≤ j → 1 - a ≤ d → c * c ≤ j * (a * j + d) := by
    intro j d hj hd
    have h1 : a * 1 ≤ a * j := Int.mul_le_mul_of_nonneg_left (by omega) (by omega)
    have h2 : 1 * (j - 1) ≤ a * (j - 1) := Int.mul_le_mul_of_nonneg_right a1 (by omega)
    have h3 : a * (j - 1) = a * j - a := by rw [Int.mul_sub, Int.mul_one]
    exact Int.mul_le_mul hj (by omega) (by omega) (by omega)
  rcases hk with h | h
  · have := main k b h b0
    have e : k * (a * k + b) = a * k * k + b * k := by rw [Int.mul_add, Int.mul_comm k (a * k), Int.mul_comm k b]
    omega
  · have := main (-k) (-b) (by omega) (by omega)
    have e : -k * (a * -k + -b) = a * k * k + b * k := by grind
    omega
theorem sg_bd {a b k : Int} (a1 : 1 ≤ a) (a2 : a ≤ 100) (b0 : 1 - a ≤ b) (b1 : b ≤ a - 1) (k0 : -40 ≤ k) (k1 : k ≤ 40) : (-4000 ≤ a * k ∧ a * k ≤ 4000) ∧ (-160000 ≤ a * k * k ∧ a * k * k ≤ 160000) ∧ (-4000 ≤ b * k ∧ b * k ≤ 4000) ∧ 0 ≤ a * k * k + b * k := by
  have h1 := mul_bd (x := a) (y := k) (X := 100) (Y := 40) (by omega) (by omega)
  have h2 := mul_bd (x := a * k) (y := k) (X := 4000) (Y := 40) (by omega) (by omega)
  have h3 := mul_bd (x := b) (y := k) (X := 100) (Y := 40) (by omega) (by omega)
  refine ⟨by omega, by omega, by omega, ?_⟩
  by_cases c : k = 0
  · rw [c]; simp
  · have := sg_pos (k := k) a1 b0 b1 1 (by omega) (by omega) (by omega)
    omega
theorem plS_bd {a b k : Int} (a1 : 1 ≤ a) (a2 : a ≤ 100) (b0 : 1 - a ≤ b) (b1 : b ≤ a - 1) (k0 : -40 ≤ k) (k1 : k ≤ 40) : 0 ≤ plS a b k ∧ plS a b k ≤ 100000 := by
  obtain ⟨h1, h2, h3, h4⟩ := sg_bd a1 a2 b0 b1 k0 k1
  unfold plS
  rw [Int.tdiv_eq_ediv_of_nonneg h4]
  omega
theorem plS_far {a b k : Int} (a1 : 1 ≤ a) (b0 : 1 - a ≤ b) (b1 : b ≤ a - 1) (hk : 31 ≤ k ∨ k ≤ -31) : 400 < plS a b k := by
  have := sg_pos (k := k) a1 b0 b1 31 (by omega) hk (by omega)
  unfold plS
  rw [Int.tdiv_eq_ediv_of_nonneg (by omega)]
  omega
def sgK (k : Int) : Int64 := if Int.tmod k 2 = 0 then 1 else Int64.ofNat 18446744073709551615
def putS (a b k : Int) (s : SQ) : SQ := fun n => if (n : Int) = plS a b k then s n + sgK k else s n
def sgs (a b : Int) : Nat → Int → SQ → SQ
  | 0, _, s => s
  | m + 1, k, s => sgs a b m (k + 1) (putS a b k s)
theorem t_setSigns {Q : ZQ} {σ : ZM} {c : Nat} {a b : Int} (r : IsRow σ c) (a1 : 1 ≤ a) (a2 : a ≤ 100) (b0 : 1 - a ≤ b) (b1 : b ≤ a - 1) (q : ∀ σ', RV0 σ' c (sgs a b 61 (-30) (fun _ => 0)) → Fr (fun x => x = c) σ σ' → Q zu σ') : WP m_Rows_setSigns 0 [zr c, zi a, zi b, zu, zu] [] σ (0, 0) Q := by
  have key : ∀ (m : Nat) (k : Int) (τ : ZM) (u : PV) (s : SQ), k + m = 31 → -30 ≤ k → RV0 τ c s → (∀ σ', RV0 σ' c (sgs a b m k s) → Fr (fun x => x = c) σ σ' → Q zu σ') → Fr (fun x => x = c) σ τ → WP m_Rows_setSigns 7 [zr c, zi a, zi b, zi k, u] [] τ (0, 0) Q := by
    intro m
    induction m with
    | zero =>
      intro k τ u s hm k0 hs q f
      refine r_Rows_setSigns_7 ⟨fun _ => q τ hs f, fun c => by omega⟩
    | succ m ih =>
      intro k τ u s hm k0 hs q f
      obtain ⟨l1, l2⟩ := (f.row r).len
      obtain ⟨h1, h2, h3, h4⟩ := sg_bd (k := k) a1 a2 b0 b1 (by omega) (by omega)
      have hp := plS_bd (k := k) a1 a2 b0 b1 (by omega) (by omega)
      have hd : -2147483648 ≤ Int.tdiv k 2 ∧ Int.tdiv k 2 ≤ 2147483647 := by
        have := Int.natAbs_tdiv_le_natAbs k 2
        omega
      refine r_Rows_setSigns_7 ⟨fun c => by omega, fun _ => ⟨by omega, by omega, by omega, by omega, by decide, ?_⟩⟩
      show (-2147483648 ≤ plS a b k ∧ plS a b k ≤ 2147483647) ∧ ((plS a b k < 0 → _) ∧ (0 ≤ plS a b k → _))
      refine ⟨by omega, fun c => by omega, fun _ => ⟨l1, ?_⟩⟩
      rw [l2]
      have wr : ∀ v : Int64, plS a b k ≤ 400 → v = sgK k → RV0 (wJ τ c (plS a b k) (zJ τ c (plS a b k) + v)) c (putS a b k s) := fun v hle hv n hn => by
        unfold putS
        rw [zJ_wJ]
        by_cases e : (n : Int) = plS a b k
        · rw [if_pos ⟨rfl, e⟩, if_pos e, ← e, hs n hn, hv]
        · rw [if_neg (fun w => e w.2), if_neg e]
          exact hs n hn
      refine ⟨fun c2 => ⟨by omega, ih (k + 1) τ _ (putS a b k s) (by omega) (by omega) (hs.lk (fun n hn => ?_)) q f⟩, fun c2 => ⟨(f.row r).arr hp.1 (by omega), by decide, hd, fun c3 => ⟨(f.row r).arr hp.1 (by omega), by omega, ?_⟩, fun c3 => ⟨(f.row r).arr hp.1 (by omega), by omega, ?_⟩⟩⟩
      · unfold putS
        have c2 : 401 ≤ plS a b k := c2
        rw [if_neg (by omega)]
      · exact ih (k + 1) _ _ _ (by omega) (by omega) (wr _ (by have : plS a b k < 401 := c2; omega) (by unfold sgK; rw [if_neg c3])) q (f.tr (Fr.wJ rfl))
      · exact ih (k + 1) _ _ _ (by omega) (by omega) (wr _ (by have : plS a b k < 401 := c2; omega) (by unfold sgK; rw [if_pos c3])) q (f.tr (Fr.wJ rfl))
  exact r_Rows_setSigns_0 (t_setZero r (fun τ k1 k2 => key 61 (-30) τ _ _ (by omega) (by omega) k1 q k2))
def cvS (s t : SQ) (n : Nat) : Nat → Int64
  | 0 => 0
  | j + 1 => cvS s t n j + s j * t (n - j)
def mulS (s t : SQ) : SQ := fun n => cvS s t n (n + 1)
theorem cvS_ext {s t s' t' : SQ} {n : Nat} (h1 : ∀ m, m ≤ n → s m = s' m) (h2 : ∀ m, m ≤ n → t m = t' m) : ∀ j, j ≤ n + 1 → cvS s t n j = cvS s' t' n j
  | 0, _ => rfl
  | j + 1, hj => by
    show cvS s t n j + s j * t (n - j) = cvS s' t' n j + s' j * t' (n - j)
    rw [cvS_ext h1 h2 j (by omega), h1 j (by omega), h2 (n - j) (by omega)]
theorem t_multiply {Q : ZQ} {σ : ZM} {a b : Nat} {s t : SQ} (r : IsRow σ a) (r' : IsRow σ b) (hs : RV0 σ a s) (ht : RV0 σ b t) (q : ∀ σ', RV0 σ' a (mulS s t) → Fr (fun x => x = a) σ σ' → Q zu σ') : WP m_Rows_multiply 0 [zr a, zr b, zu, zu, zu, zu] [] σ (0, 0) Q := by
  have key : ∀ (m : Nat) (x : Int) (τ : ZM) (u v w : PV), x + 1 = m → x ≤ 400 → (∀ n : Nat, n ≤ 400 → zJ τ a (n : Int) = if (n : Int) ≤ x then s n else mulS s t n) → (∀ n : Nat, (n : Int) ≤ x → zJ τ b (n : Int) = t n) → Fr (fun x => x = a) σ τ → WP m_Rows_multiply 10 [zr a, zr b, zi x, u, v, w] [] τ (0, 0) Q := by
    intro m
    induction m with
    | zero =>
      intro x τ u v w hx x4 hv hw f
      refine r_Rows_multiply_10 ⟨fun _ => q τ (fun n hn => ?_) f, fun c => by omega⟩
      rw [hv n hn, if_neg (by omega)]
    | succ m ih =>
      intro x τ u v w hx x4 hv hw f
      obtain ⟨n, rfl⟩ := Int.eq_ofNat_of_zero_le (show 0 ≤ x by omega)
      refine r_Rows_multiply_10 ⟨fun c => by omega, fun _ => ?_⟩
      have inner : ∀ (g j : Nat), j + g = n + 1 → WP m_Rows_multiply 19 [zr a, zr b, zi (n : Int), zl (cvS s t n j), zu, zi (j : Int)] [] τ (0, 0) Q := by
        intro g
        induction g with
        | zero =>
          intro j hj
          refine r_Rows_multiply_19 ⟨fun _ => ⟨(f.row r).arr (by omega) (by omega), by omega, ?_⟩, fun c => by omega⟩
          refine ih ((n : Int) + -1) _ _ _ _ (by omega) (by omega) (fun i hi => ?_) (fun i hi => ?_) (f.tr (Fr.wJ rfl))
          · rw [zJ_wJ]
            by_cases e : i = n
            · rw [if_pos ⟨rfl, by omega⟩, if_neg (by omega), e, show j = n + 1 by omega]
              rfl
            · rw [if_neg (by omega), hv i hi]
              by_cases c : (i : Int) ≤ (n : Int)
              · rw [if_pos c, if_pos (by omega)]
              · rw [if_neg c, if_neg (by omega)]
          · rw [zJ_wJ, if_neg (by omega)]
            exact hw i (by omega)
        | succ g ihg =>
          intro j hj
          refine r_Rows_multiply_19 ⟨fun c => by omega, fun _ => ⟨(f.row r).arr (by omega) (by omega), by omega, (f.row r').arr (by omega) (by omega), by omega, ?_⟩⟩
          have := ihg (j + 1) (by omega)
          have e1 := hv j (by omega)
          rw [if_pos (by omega)] at e1
          have e2 := hw (n - j) (by omega)
          rw [show ((n - j : Nat) : Int) = (n : Int) - (j : Int) by omega] at e2
          rw [e1, e2]
          rw [Int.natCast_succ] at this
          exact this
      exact inner (n + 1) 0 (by omega)
  obtain ⟨l1, l2⟩ := r.len
  obtain ⟨l3, l4⟩ := r'.len
  refine r_Rows_multiply_0 ⟨l1, l3, ?_⟩
  rw [l2, l4]
  refine t_min ⟨by omega, key 401 _ σ _ _ _ (by omega) (by omega) (fun n hn => ?_) (fun n hn => ht n (by omega)) Fr.rf⟩
  rw [if_pos (by omega)]
  exact hs n hn
theorem t_addTimes {Q : ZQ} {σ : ZM} {a b : Nat} {s t : SQ} {c : Int64} (r : IsRow σ a) (r' : IsRow σ b) (hs : RV0 σ a s) (ht : RV0 σ b t) (q : ∀ σ', RV0 σ' a (fun n => s n + c * t n) → Fr (fun x => x = a) σ σ' → Q zu σ') : WP m_Rows_addTimes 0 [zr a, zr b, zl c, zu, zu] [] σ (0, 0) Q := by
  have key : ∀ (m x : Nat) (τ : ZM), x + m = 401 → (∀ n : Nat, n ≤ 400 → zJ τ a (n : Int) = if n < x then s n + c * t n else s n) → (∀ n : Nat, n ≤ 400 → x ≤ n → zJ τ b (n : Int) = t n) → Fr (fun x => x = a) σ τ → WP m_Rows_addTimes 3 [zr a, zr b, zl c, zu, zi (x : Int)] [] τ (0, 0) Q := by
    intro m
    induction m with
    | zero =>
      intro x τ hx hv hw f
      obtain ⟨l1, l2⟩ := (f.row r).len
      refine r_Rows_addTimes_3 ⟨l1, ?_⟩
      rw [l2]
      refine ⟨fun _ => q τ (fun n hn => ?_) f, fun c => by omega⟩
      rw [hv n hn, if_pos (by omega)]
    | succ m ih =>
      intro x τ hx hv hw f
      obtain ⟨l1, l2⟩ := (f.row r).len
      obtain ⟨l3, l4⟩ := (f.row r').len
      refine r_Rows_addTimes_3 ⟨l1, ?_⟩
      rw [l2]
      refine ⟨fun c => by omega, fun _ => ⟨l3, ?_⟩⟩
      rw [l4]
      refine ⟨fun c => by omega, fun _ => ⟨(f.row r).arr (by omega) (by omega), (f.row r').arr (by omega) (by omega), (f.row r).arr (by omega) (by omega), by omega, ?_⟩⟩
      have := ih (x + 1) (wJ τ a (x : Int) (zJ τ a (x : Int) + c * zJ τ b (x : Int))) (by omega) (fun n hn => ?_) (fun n hn hx' => ?_) (f.tr (Fr.wJ rfl))
      · rw [Int.natCast_succ] at this
        exact this
      · rw [zJ_wJ]
        by_cases e : n = x
        · rw [if_pos ⟨rfl, by omega⟩, if_pos (by omega), hv x (by omega), if_neg (by omega), hw x (by omega) (Nat.le_refl _), e]
        · rw [if_neg (by omega), hv n hn]
          by_cases c2 : n < x
          · rw [if_pos c2, if_pos (by omega)]
          · rw [if_neg c2, if_neg (by omega)]
      · rw [zJ_wJ, if_neg (by omega)]
        exact hw n hn (by omega)
  refine r_Rows_addTimes_0 (key 401 0 σ (by omega) (fun n hn => ?_) (fun n hn _ => ht n hn) Fr.rf)
  rw [if_neg (by omega)]
  exact hs n hn
theorem t_moveUp {Q : ZQ} {σ : ZM} {a y : Nat} {s : SQ} (r : IsRow σ a) (hy : y ≤ 400) (hs : RV0 σ a s) (q : ∀ σ', RV0 σ' a (shS y s) → Fr (fun x => x = a) σ σ' → Q zu σ') : WP m_Rows_moveUp 0 [zr a, zi (y : Int), zu] [] σ (0, 0) Q := by
  have key : ∀ (m : Nat) (x : Int) (τ : ZM), x + 1 = m → x ≤ 400 → (∀ n : Nat, n ≤ 400 → zJ τ a (n : Int) = if (n : Int) ≤ x then s n else shS y s n) → Fr (fun x => x = a) σ τ → WP m_Rows_moveUp 5 [zr a, zi (y : Int), zi x] [] τ (0, 0) Q := by
    intro m
    induction m with
    | zero =>
      intro x τ hx x4 hv f
      refine r_Rows_moveUp_5 ⟨fun _ => q τ (fun n hn => ?_) f, fun c => by omega⟩
      rw [hv n hn, if_neg (by omega)]
    | succ m ih =>
      intro x τ hx x4 hv f
      obtain ⟨n, rfl⟩ := Int.eq_ofNat_of_zero_le (show 0 ≤ x by omega)
      have go : ∀ v : Int64, v = shS y s n → WP m_Rows_moveUp 5 [zr a, zi (y : Int), zi ((n : Int) + -1)] [] (wJ τ a (n : Int) v) (0, 0) Q := fun v hvv => by
        refine ih ((n : Int) + -1) _ (by omega) (by omega) (fun i hi => ?_) (f.tr (Fr.wJ rfl))
        rw [zJ_wJ]
        by_cases e : i = n
        · rw [if_pos ⟨rfl, by omega⟩, if_neg (by omega), e, hvv]
        · rw [if_neg (by omega), hv i hi]
          by_cases c : (i : Int) ≤ (n : Int)
          · rw [if_pos c, if_pos (by omega)]
          · rw [if_neg c, if_neg (by omega)]
      refine r_Rows_moveUp_5 ⟨fun c => by omega, fun _ => ⟨fun c => ⟨(f.row r).arr (by omega) (by omega), by omega, go 0 ?_⟩, fun c => ⟨by omega, (f.row r).arr (by omega) (by omega), (f.row r).arr (by omega) (by omega), by omega, go _ ?_⟩⟩⟩
      · unfold shS
        rw [if_neg (by omega)]
      · unfold shS
        rw [if_pos (by omega), show (n : Int) - (y : Int) = ((n - y : Nat) : Int) by omega, hv (n - y) (by omega), if_pos (by omega)]
  obtain ⟨l1, l2⟩ := r.len
  refine r_Rows_moveUp_0 ⟨l1, ?_⟩
  rw [l2]
  refine ⟨by omega, key 401 _ σ (by omega) (by omega) (fun n hn => ?_) Fr.rf⟩
  rw [if_pos (by omega)]
  exact hs n hn
