/-! small methods: bounds, Math, kinds of sums -/
theorem zlcmp_lt {x y : Int64} : zlcmp x y < 0 ↔ x.toInt < y.toInt := by
  unfold zlcmp
  simp only [Int64.lt_iff_toInt_lt, ← Int64.toInt_inj]
  split
  · omega
  · split <;> omega
theorem zlcmp_gt {x y : Int64} : 0 < zlcmp x y ↔ y.toInt < x.toInt := by
  unfold zlcmp
  simp only [Int64.lt_iff_toInt_lt, ← Int64.toInt_inj]
  split
  · omega
  · split <;> omega
theorem zlcmp_eq {x y : Int64} : zlcmp x y = 0 ↔ x = y := by
  unfold zlcmp
  simp only [Int64.lt_iff_toInt_lt, ← Int64.toInt_inj]
  split
  · omega
  · split <;> omega
theorem l64 {a : Int} (h : -2147483648 ≤ a ∧ a ≤ 2147483647) : (Int64.ofInt a).toInt = a := Int64.toInt_ofInt_of_le (by omega) (by omega)
theorem t_isWithin {σ : ZM} {Q : ZQ} {v lo hi : Int} (h1 : lo ≤ v → v ≤ hi → Q (zi 1) σ) (h0 : (v < lo ∨ hi < v) → Q (zi 0) σ) : WP m_PP_isWithin 0 [zi v, zi lo, zi hi] [] σ (0, 0) Q :=
  r_PP_isWithin_0 ⟨fun c => ⟨Or.inl rfl, h0 (Or.inl c)⟩, fun c => ⟨fun c2 => ⟨Or.inl rfl, h0 (Or.inr c2)⟩, fun c2 => ⟨Or.inr rfl, h1 c c2⟩⟩⟩
theorem t_isSheet {σ : ZM} {Q : ZQ} {v : Int} (h1 : 0 ≤ v → v ≤ 7 → Q (zi 1) σ) (h0 : (v < 0 ∨ 7 < v) → Q (zi 0) σ) : WP m_PP_isSheet 0 [zi v] [] σ (0, 0) Q :=
  r_PP_isSheet_0 (t_isWithin (fun a b => ⟨Or.inr rfl, h1 a b⟩) (fun a => ⟨Or.inl rfl, h0 a⟩))
theorem t_isLaw {σ : ZM} {Q : ZQ} {v : Int} (h1 : 0 ≤ v → v ≤ 7 → Q (zi 1) σ) (h0 : (v < 0 ∨ 7 < v) → Q (zi 0) σ) : WP m_PP_isLaw 0 [zi v] [] σ (0, 0) Q :=
  r_PP_isLaw_0 (t_isWithin (fun a b => ⟨Or.inr rfl, h1 a b⟩) (fun a => ⟨Or.inl rfl, h0 a⟩))
theorem t_isSeries {σ : ZM} {Q : ZQ} {v : Int} (h1 : 0 ≤ v → v ≤ 3 → Q (zi 1) σ) (h0 : (v < 0 ∨ 3 < v) → Q (zi 0) σ) : WP m_PP_isSeries 0 [zi v] [] σ (0, 0) Q :=
  r_PP_isSeries_0 (t_isWithin (fun a b => ⟨Or.inr rfl, h1 a b⟩) (fun a => ⟨Or.inl rfl, h0 a⟩))
theorem t_isHookLength {σ : ZM} {Q : ZQ} {v : Int} (h1 : 2 ≤ v → v ≤ 12 → Q (zi 1) σ) (h0 : (v < 2 ∨ 12 < v) → Q (zi 0) σ) : WP m_PP_isHookLength 0 [zi v] [] σ (0, 0) Q :=
  r_PP_isHookLength_0 (t_isWithin (fun a b => ⟨Or.inr rfl, h1 a b⟩) (fun a => ⟨Or.inl rfl, h0 a⟩))
theorem t_in {σ : ZM} {Q : ZQ} {v lo hi : Int64} (h1 : lo.toInt ≤ v.toInt → v.toInt ≤ hi.toInt → Q (zi 1) σ) (h0 : (v.toInt < lo.toInt ∨ hi.toInt < v.toInt) → Q (zi 0) σ) : WP m_Mod_in 0 [zl v, zu, zl lo, zu, zl hi, zu] [] σ (0, 0) Q := by
  refine r_Mod_in_0 ⟨fun c => ⟨Or.inl rfl, h0 (Or.inl (zlcmp_lt.mp c))⟩, fun c => ⟨fun c2 => ⟨Or.inl rfl, h0 (Or.inr (zlcmp_gt.mp c2))⟩, fun c2 => ⟨Or.inr rfl, h1 ?_ ?_⟩⟩⟩
  · have := (zlcmp_lt (x := v) (y := lo)).mpr
    omega
  · have := (zlcmp_gt (x := v) (y := hi)).mpr
    omega
theorem t_inI {σ : ZM} {Q : ZQ} {v : Int} {lo hi : Int64} (hv : -2147483648 ≤ v ∧ v ≤ 2147483647) (h1 : lo.toInt ≤ v → v ≤ hi.toInt → Q (zi 1) σ) (h0 : (v < lo.toInt ∨ hi.toInt < v) → Q (zi 0) σ) : WP m_Mod_in 0 [zl (Int64.ofInt v), zu, zl lo, zu, zl hi, zu] [] σ (0, 0) Q := by
  refine t_in (fun a b => ?_) (fun a => ?_)
  · rw [l64 hv] at a b
    exact h1 a b
  · rw [l64 hv] at a
    exact h0 a
theorem t_mSheet {σ : ZM} {Q : ZQ} {this : Nat} {v : Int} (hv : -2147483648 ≤ v ∧ v ≤ 2147483647) (h1 : 0 ≤ v → v ≤ 7 → Q (zi 1) σ) (h0 : (v < 0 ∨ 7 < v) → Q (zi 0) σ) : WP m_Mod_isSheet 0 [zr this, zi v] [] σ (0, 0) Q :=
  r_Mod_isSheet_0 (t_inI hv (fun a b => ⟨Or.inr rfl, h1 a b⟩) (fun a => ⟨Or.inl rfl, h0 a⟩))
theorem t_mRow {σ : ZM} {Q : ZQ} {this : Nat} {v : Int} (hv : -2147483648 ≤ v ∧ v ≤ 2147483647) (h1 : 0 ≤ v → v ≤ 3 → Q (zi 1) σ) (h0 : (v < 0 ∨ 3 < v) → Q (zi 0) σ) : WP m_Mod_isRow 0 [zr this, zi v] [] σ (0, 0) Q :=
  r_Mod_isRow_0 (t_inI hv (fun a b => ⟨Or.inr rfl, h1 a b⟩) (fun a => ⟨Or.inl rfl, h0 a⟩))
theorem t_mWidth {σ : ZM} {Q : ZQ} {v : Int} (hv : -2147483648 ≤ v ∧ v ≤ 2147483647) (h1 : 2 ≤ v → v ≤ 12 → Q (zi 1) σ) (h0 : (v < 2 ∨ 12 < v) → Q (zi 0) σ) : WP m_Mod_isWidth 0 [zi v] [] σ (0, 0) Q :=
  r_Mod_isWidth_0 (t_inI hv (fun a b => ⟨Or.inr rfl, h1 a b⟩) (fun a => ⟨Or.inl rfl, h0 a⟩))
theorem t_max {σ : ZM} {Q : ZQ} {a b : Int} (h : Q (zi (max a b)) σ) : WP m_Math_max_7cf53 0 [zi a, zi b] [] σ (0, 0) Q :=
  r_Math_max_7cf53_0 ⟨fun c => by rw [show max a b = b by omega] at h; exact h, fun c => by rw [show max a b = a by omega] at h; exact h⟩
theorem t_min {σ : ZM} {Q : ZQ} {a b : Int} (h : Q (zi (min a b)) σ) : WP m_Math_min_7cf53 0 [zi a, zi b] [] σ (0, 0) Q :=
  r_Math_min_7cf53_0 ⟨fun c => by rw [show min a b = b by omega] at h; exact h, fun c => by rw [show min a b = a by omega] at h; exact h⟩
theorem t_abs {σ : ZM} {Q : ZQ} {a : Int} (ha : -2147483648 < a) (h : a ≤ 2147483647) (h0 : 0 ≤ a → Q (zi a) σ) (h1 : a < 0 → Q (zi (-a)) σ) : WP m_Math_abs_0f7a4 0 [zi a] [] σ (0, 0) Q :=
  r_Math_abs_0f7a4_0 ⟨fun c => h0 c, fun c => ⟨by omega, h1 c⟩⟩
theorem sm_all {P : Int → Prop} [DecidablePred P] : ∀ n : Nat, sm (fun k => if P k then 1 else 0) n = n ↔ ∀ k : Int, 0 ≤ k → k < n → P k
  | 0 => ⟨fun _ k h0 h1 => by omega, fun _ => rfl⟩
  | n + 1 => by
    have ih := sm_all (P := P) n
    have hb := sm_bd (f := fun k => if P k then 1 else 0) (B := 1) n (fun j _ _ => by split <;> omega)
    show sm (fun k => if P k then 1 else 0) n + (if P n then 1 else 0) = ((n + 1 : Nat) : Int) ↔ _
    constructor
    · intro h k k0 k1
      by_cases hp : P n
      · rw [if_pos hp] at h
        by_cases e : k = n
        · rw [e]; exact hp
        · exact ih.mp (by omega) k k0 (by omega)
      · rw [if_neg hp] at h
        omega
    · intro h
      rw [if_pos (h n (by omega) (by omega)), ih.mpr (fun k k0 k1 => h k k0 (by omega))]
      omega
theorem t_Sum_isUnlike {Q : ZQ} {h : Nat} {l : List Int} {σ : ZM} (o : SumO σ h) (hl : Lz σ h l) (q1 : (∀ i, 0 ≤ i → i < (l.length : Int) → ga l (i + 1) < ga l i) → Q (zi 1) σ) (q0 : (¬ ∀ i, 0 ≤ i → i < (l.length : Int) → ga l (i + 1) < ga l i) → Q (zi 0) σ) : WP m_Sum_isUnlike 0 [zr h] [] σ (0, 0) Q := by
  have hs := sm_all (P := fun i => ga l (i + 1) < ga l i) l.length
  refine r_Sum_isUnlike_0 ⟨o.1, t_Sum_unlike o hl ⟨o.1, fun c => ⟨Or.inl rfl, q0 (fun w => c ?_)⟩, fun c => ⟨Or.inr rfl, q1 (hs.mp ?_)⟩⟩⟩
  · rw [hl.1]; exact hs.mpr w
  · rw [hl.1] at c; exact c
theorem t_Sum_isOdd {Q : ZQ} {h : Nat} {l : List Int} {σ : ZM} (o : SumO σ h) (hp : Pt l) (hl : Lz σ h l) (q1 : (∀ i, 0 ≤ i → i < (l.length : Int) → ga l i % 2 = 1) → Q (zi 1) σ) (q0 : (¬ ∀ i, 0 ≤ i → i < (l.length : Int) → ga l i % 2 = 1) → Q (zi 0) σ) : WP m_Sum_isOdd 0 [zr h] [] σ (0, 0) Q := by
  have hs := sm_all (P := fun i => ga l i % 2 = 1) l.length
  have he : sm (fun i => ga l i % 2) l.length = sm (fun k => if ga l k % 2 = 1 then 1 else 0) l.length := sm_ext _ (fun i _ _ => by split <;> omega)
  refine r_Sum_isOdd_0 ⟨o.1, t_Sum_odd o hp hl ⟨o.1, fun c => ⟨Or.inl rfl, q0 (fun w => c ?_)⟩, fun c => ⟨Or.inr rfl, q1 (hs.mp ?_)⟩⟩⟩
  · rw [hl.1, he]; exact hs.mpr w
  · rw [hl.1, he] at c; exact c
theorem t_Sum_isCorner {Q : ZQ} {h : Nat} {l : List Int} {σ : ZM} {i : Int} (o : SumO σ h) (hl : Lz σ h l) (hi : 0 ≤ i ∧ i ≤ 500) (q1 : ga l (i + 1) < ga l i → Q (zi 1) σ) (q0 : ga l i ≤ ga l (i + 1) → Q (zi 0) σ) : WP m_Sum_isCorner 0 [zr h, zi i] [] σ (0, 0) Q :=
  r_Sum_isCorner_0 ⟨o.1, t_Sum_at o hl ⟨by omega, o.1, t_Sum_at o hl ⟨fun c => ⟨Or.inl rfl, q0 c⟩, fun c => ⟨Or.inr rfl, q1 c⟩⟩⟩⟩
