/-! heap: numbers -/
def sI (f : Nat → Int64) : Nat → Int64
  | 0 => 0
  | n + 1 => sI f n + f n
theorem sI_ext {f g : Nat → Int64} : ∀ n : Nat, (∀ i, i < n → f i = g i) → sI f n = sI g n
  | 0, _ => rfl
  | n + 1, h => by
    show sI f n + f n = sI g n + g n
    rw [sI_ext n (fun i hi => h i (by omega)), h n (by omega)]
theorem sI_tail {f : Nat → Int64} {k : Nat} : ∀ n : Nat, k ≤ n → (∀ i, k ≤ i → i < n → f i = 0) → sI f n = sI f k
  | 0, h, _ => by rw [show k = 0 by omega]
  | n + 1, h, hz => by
    by_cases e : k = n + 1
    · rw [e]
    · show sI f n + f n = _
      rw [sI_tail n (by omega) (fun i a b => hz i a (by omega)), hz n (by omega) (by omega), Int64.add_zero]
theorem zxor_neg {a b : Int} (ha : -2147483648 ≤ a ∧ a ≤ 2147483647) (hb : 0 ≤ b ∧ b ≤ 2147483647) : zxor a b < 0 ↔ a < 0 := by
  have e1 : (Int32.ofInt a).toBitVec.toInt = a := Int32.toInt_ofInt_of_le (by omega) (by omega)
  have e2 : (Int32.ofInt b).toBitVec.toInt = b := Int32.toInt_ofInt_of_le (by omega) (by omega)
  have e3 : zxor a b = ((Int32.ofInt a).toBitVec ^^^ (Int32.ofInt b).toBitVec).toInt := rfl
  have h1 : ((Int32.ofInt a).toBitVec ^^^ (Int32.ofInt b).toBitVec).msb = decide (zxor a b < 0) := by rw [BitVec.msb_eq_toInt, e3]
  rw [BitVec.msb_xor, BitVec.msb_eq_toInt, BitVec.msb_eq_toInt, e1, e2] at h1
  have h2 : decide (b < 0) = false := by simp; omega
  rw [h2, Bool.xor_false] at h1
  have := decide_eq_decide.mp h1
  exact this.symm
theorem tmod_emod {x m : Int} (hm : 1 ≤ m) : x % m = if Int.tmod x m < 0 then Int.tmod x m + m else Int.tmod x m := by
  have h1 := Int.emod_nonneg x (show m ≠ 0 by omega)
  have h2 := Int.emod_lt_of_pos x (show 0 < m by omega)
  rw [Int.tmod_eq_emod]
  split
  · split <;> omega
  · split <;> omega
theorem t_floorMod {Q : ZQ} {σ : ZM} {x m : Int} (hx : -100000 ≤ x ∧ x ≤ 100000) (hm : 1 ≤ m ∧ m ≤ 1000) (q : Q (zi (x % m)) σ) : WP m_Math_floorMod_7cf53 0 [zi x, zi m, zu] [] σ (0, 0) Q := by
  have hz := zxor_neg (a := x) (b := m) (by omega) (by omega)
  have he := tmod_emod (x := x) (m := m) (by omega)
  have h1 := Int.emod_nonneg x (show m ≠ 0 by omega)
  have h2 := Int.emod_lt_of_pos x (show 0 < m by omega)
  have hs : 0 ≤ x → 0 ≤ Int.tmod x m := fun h => Int.tmod_nonneg m h
  have hn : x ≤ 0 → Int.tmod x m ≤ 0 := fun h => by
    have := Int.tmod_nonneg m (show 0 ≤ -x by omega)
    rw [Int.neg_tmod] at this
    omega
  have hd := Int.natAbs_tdiv_le_natAbs x m
  refine r_Math_floorMod_7cf53_0 ⟨by omega, by omega, fun c => ?_, fun c => ⟨fun c2 => ?_, fun c2 => ⟨?_, ?_⟩⟩⟩
  · rw [he, if_neg (by have := hs (by omega); omega)] at q; exact q
  · rw [he, if_neg (by omega)] at q; exact q
  · rw [if_pos (by have := hn (by omega); omega)] at he; omega
  · rw [he, if_pos (by have := hn (by omega); omega)] at q; exact q
theorem t_mRest {Q : ZQ} {σ : ZM} {x m : Int} (hx : -100000 ≤ x ∧ x ≤ 100000) (hm : 1 ≤ m ∧ m ≤ 1000) (q : Q (zi (x % m)) σ) : WP m_Mod_rest 0 [zi x, zi m, zu] [] σ (0, 0) Q := by
  have he := tmod_emod (x := x) (m := m) (by omega)
  have h1 := Int.emod_nonneg x (show m ≠ 0 by omega)
  have h2 := Int.emod_lt_of_pos x (show 0 < m by omega)
  have hd := Int.natAbs_tdiv_le_natAbs x m
  refine r_Mod_rest_0 ⟨by omega, by omega, fun c => ?_, fun c => ⟨?_, ?_⟩⟩
  · rw [he, if_neg (by omega)] at q; exact q
  · rw [if_pos c] at he; omega
  · rw [he, if_pos c] at q; exact q
/-- many parts are as good as none above -/
theorem BB_all : ∀ (n p q : Nat), n ≤ p → n ≤ 400 → BB p q n = PB q n
  | 0, p, q, _, _ => by
    rw [BB_n0]
    have : ∀ q, PB q 0 = 1 := by
      intro q
      induction q with
      | zero => rfl
      | succ q ih => rw [PB_rec (by omega), if_neg (by omega), ih]
    rw [this]
  | n + 1, p, q, hp, hn => by
    obtain ⟨p', rfl⟩ : ∃ p', p = p' + 1 := ⟨p - 1, by omega⟩
    rw [PB_sum hn (by omega)]
    show (if n + 1 = 0 then 1 else _) = _
    rw [if_neg (by omega)]
    refine sN_ext q (fun u _ => ?_)
    split
    · have key : ∀ m j p u : Nat, j ≤ m → m ≤ n → j ≤ p → BB p u j = PB u j := by
        intro m
        induction m with
        | zero => intro j p u h1 _ h2; rw [show j = 0 by omega]; exact BB_all 0 p u (by omega) (by omega)
        | succ m ih =>
          intro j p u h1 h3 h2
          by_cases e : j = m + 1
          · rw [e]; exact BB_all (m + 1) p u (by omega) (by omega)
          · exact ih j p u (by omega) (by omega) h2
      exact key n _ _ _ (by omega) (Nat.le_refl _) (by omega)
    · rfl
theorem T2_low {w n : Nat} (h : w < 2) : T2 w n = if n = 0 then 1 else 0 := by
  have : w = 0 ∨ w = 1 := by omega
  rcases this with rfl | rfl
  · rfl
  · show TB al2 400 (0 + 1) n = _
    rw [TB_no rfl]
    rfl
theorem T2_rec {w n : Nat} (h : 1 ≤ w) (hn : n ≤ 400) : T2 (w + 1) n = T2 w n + (if w + 1 ≤ n then T2 (w + 1) (n - (w + 1)) else 0) := by
  by_cases c : w + 1 ≤ n
  · have := TB_rec (al := al2) (c := 400) (k := w) (n := n) (by unfold al2; simp; omega) c
    rw [if_neg (by have := Nat.mul_le_mul (Nat.le_refl (400 + 1)) (show 1 ≤ w + 1 by omega); omega)] at this
    rw [if_pos c]
    exact this
  · rw [if_neg c]
    show TB al2 400 (w + 1) n = TB al2 400 w n + 0
    rw [TB_lt (by omega), Nat.add_zero]
theorem PB_one {n : Nat} (hn : n ≤ 400) : PB 1 n = 1 := by
  have key : ∀ m n : Nat, n ≤ m → n ≤ 400 → PB 1 n = 1 := by
    intro m
    induction m with
    | zero =>
      intro n h1 h2
      rw [show n = 0 by omega]
      show PB (0 + 1) 0 = 1
      rw [PB_rec (by omega), if_neg (by omega)]
      rfl
    | succ m ih =>
      intro n h1 h2
      show PB (0 + 1) n = 1
      rw [PB_rec h2]
      by_cases c : 0 + 1 ≤ n
      · rw [if_pos c, ih (n - (0 + 1)) (by omega) (by omega)]
        show (if n = 0 then 1 else 0) + 1 = 1
        rw [if_neg (by omega)]
      · rw [if_neg c, show n = 0 by omega]
        rfl
  exact key n n (Nat.le_refl _) hn
/-- without ones: all, less those of one less -/
theorem PB_T2 : ∀ (t n : Nat), 1 ≤ t → n ≤ 400 → PB t n = T2 t n + (if 1 ≤ n then PB t (n - 1) else 0)
  | 0, _, h, _ => by omega
  | 1, n, _, hn => by
    rw [PB_one hn, T2_low (by omega)]
    by_cases c : 1 ≤ n
    · rw [if_pos c, PB_one (by omega), if_neg (by omega)]
    · rw [if_neg c, if_pos (by omega)]
  | t + 2, n, _, hn => by
    have key : ∀ m n : Nat, n ≤ m → n ≤ 400 → PB (t + 2) n = T2 (t + 2) n + (if 1 ≤ n then PB (t + 2) (n - 1) else 0) := by
      intro m
      induction m with
      | zero =>
        intro n h1 h2
        have := PB_T2 (t + 1) n (by omega) h2
        rw [PB_rec h2, T2_rec (by omega) h2, this, if_neg (by omega), if_neg (by omega), if_neg (by omega), if_neg (by omega)]
      | succ m ih =>
        intro n h1 h2
        have h := PB_T2 (t + 1) n (by omega) h2
        rw [PB_rec h2, T2_rec (by omega) h2, h]
        by_cases c : t + 1 + 1 ≤ n
        · have h3 := ih (n - (t + 1 + 1)) (by omega) (by omega)
          have h4 := PB_rec (k := t + 1) (n := n - 1) (by omega)
          rw [if_pos c, if_pos c, if_pos (by omega), if_pos (by omega), h4]
          show _ + PB (t + 2) (n - (t + 1 + 1)) = _
          rw [h3]
          by_cases c2 : t + 1 + 1 ≤ n - 1
          · rw [if_pos c2, if_pos (by omega), show n - (t + 1 + 1) - 1 = n - 1 - (t + 1 + 1) by omega]
            show _ + (T2 (t + 1 + 1) (n - (t + 1 + 1)) + PB (t + 1 + 1) (n - 1 - (t + 1 + 1))) = _
            omega
          · rw [if_neg c2, if_neg (by omega)]
            show _ + (T2 (t + 1 + 1) (n - (t + 1 + 1)) + 0) = _
            omega
        · rw [if_neg c, if_neg c]
          by_cases c3 : 1 ≤ n
          · have h4 := PB_rec (k := t + 1) (n := n - 1) (by omega)
            rw [if_pos c3, if_pos c3, h4, if_neg (by omega)]
            omega
          · rw [if_neg c3, if_neg c3]
    exact key n n (Nat.le_refl _) hn
/-- one term of the heap by ranks -/
def rkT (n m r : Int) (first many : Int) : Int64 := if (first - many) % m = r then bxL (many - 1) (first - 1) (n + 1 - first - many) else 0
def rkR (n m r : Int) (i : Nat) : Int64 := sI (fun j => rkT n m r ((i : Int) + 1) ((j : Int) + 1)) (n - i).toNat
def rkS (n m r : Int) : Int64 := sI (fun i => rkR n m r i) n.toNat
/-- SUMS of n with w ones and j parts above w -/
def wOn (n w j : Int) : Int64 := sI (fun i => Int64.ofNat (T2 w.toNat i) * Int64.ofNat (BB j.toNat 60 ((n - w - j * (w + 1)).toNat - i))) (n - w - j * (w + 1) + 1).toNat
def ckT (n m r w : Int) (j : Nat) : Int64 := if ((j : Int) - w) % m = r then wOn n w (j : Int) else 0
def ckR (n m r : Int) (i : Nat) : Int64 := sI (fun j => ckT n m r ((i : Int) + 1) j) 61
def ckA (n m r : Int) (i : Nat) : Int64 := if ((i : Int) + 2) % m = r then Int64.ofNat (T2 (i + 2) (n.toNat - (i + 2))) else 0
def ckS (n m r : Int) : Int64 := sI (fun i => ckA n m r i) (n - 1).toNat + sI (fun i => ckR n m r i) n.toNat
