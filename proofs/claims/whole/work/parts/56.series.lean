/-! series without end, in 64 bits -/
abbrev SQ : Type := Nat → Int64
def shS (k : Nat) (s : SQ) : SQ := fun n => if k ≤ n then s (n - k) else 0
def mulX (k : Nat) (s : SQ) : SQ := fun n => s n - shS k s n
def plusX (k : Nat) (s : SQ) : SQ := fun n => s n + shS k s n
def dvF (k : Nat) (s : SQ) : Nat → Nat → Int64
  | 0, n => s n
  | f + 1, n => s n + (if k ≤ n then dvF k s f (n - k) else 0)
def divX (k : Nat) (s : SQ) : SQ := fun n => dvF k s n n
theorem dvF_fuel {k : Nat} (hk : 1 ≤ k) {s : SQ} : ∀ (f f' n : Nat), n ≤ f → n ≤ f' → dvF k s f n = dvF k s f' n
  | 0, 0, _, _, _ => rfl
  | 0, f' + 1, n, h, h' => by
    show s n = s n + (if k ≤ n then _ else 0)
    rw [if_neg (by omega), Int64.add_zero]
  | f + 1, 0, n, h, h' => by
    show s n + (if k ≤ n then _ else 0) = s n
    rw [if_neg (by omega), Int64.add_zero]
  | f + 1, f' + 1, n, h, h' => by
    show s n + (if k ≤ n then _ else 0) = s n + (if k ≤ n then _ else 0)
    split
    · rw [dvF_fuel hk f f' (n - k) (by omega) (by omega)]
    · rfl
theorem divX_eq {k : Nat} (hk : 1 ≤ k) (s : SQ) (n : Nat) : divX k s n = s n + shS k (divX k s) n := by
  unfold shS divX
  cases n with
  | zero => rw [if_neg (by omega), Int64.add_zero]; rfl
  | succ n =>
    show s (n + 1) + (if k ≤ n + 1 then dvF k s n (n + 1 - k) else 0) = _
    split
    · rw [dvF_fuel hk n (n + 1 - k) _ (by omega) (by omega)]
    · rfl
/-- alike up to 400 -/
def Lk (s t : SQ) : Prop := ∀ n, n ≤ 400 → s n = t n
theorem Lk.rf {s : SQ} : Lk s s := fun _ _ => rfl
theorem Lk.sy {s t : SQ} (h : Lk s t) : Lk t s := fun n hn => (h n hn).symm
theorem Lk.tr {s t u : SQ} (h : Lk s t) (h' : Lk t u) : Lk s u := fun n hn => (h n hn).trans (h' n hn)
theorem Lk.sh {s t : SQ} (h : Lk s t) (k : Nat) : Lk (shS k s) (shS k t) := fun n hn => by
  unfold shS
  split
  · exact h _ (by omega)
  · rfl
theorem Lk.mul {s t : SQ} (h : Lk s t) (k : Nat) : Lk (mulX k s) (mulX k t) := fun n hn => by
  unfold mulX
  rw [h n hn, h.sh k n hn]
theorem Lk.plus {s t : SQ} (h : Lk s t) (k : Nat) : Lk (plusX k s) (plusX k t) := fun n hn => by
  unfold plusX
  rw [h n hn, h.sh k n hn]
/-- what is solved alike is alike -/
theorem Lk.of_mul {k : Nat} (hk : 1 ≤ k) {s t : SQ} (h : Lk (mulX k s) (mulX k t)) : Lk s t := by
  have key : ∀ m n : Nat, n ≤ m → n ≤ 400 → s n = t n := by
    intro m
    induction m with
    | zero =>
      intro n h1 h2
      have := h n h2
      unfold mulX shS at this
      rw [if_neg (by omega), if_neg (by omega), Int64.sub_zero, Int64.sub_zero] at this
      exact this
    | succ m ih =>
      intro n h1 h2
      have := h n h2
      unfold mulX shS at this
      by_cases c : k ≤ n
      · rw [if_pos c, if_pos c, ih (n - k) (by omega) (by omega)] at this
        grind
      · rw [if_neg c, if_neg c, Int64.sub_zero, Int64.sub_zero] at this
        exact this
  exact fun n hn => key n n (Nat.le_refl _) hn
theorem mul_div {k : Nat} (hk : 1 ≤ k) (s : SQ) : mulX k (divX k s) = s := by
  funext n
  unfold mulX
  have := divX_eq hk s n
  grind
theorem Lk.div {k : Nat} (hk : 1 ≤ k) {s t : SQ} (h : Lk s t) : Lk (divX k s) (divX k t) := by
  refine Lk.of_mul hk ?_
  rw [mul_div hk, mul_div hk]
  exact h
theorem sh_sh (j k : Nat) (s : SQ) : shS j (shS k s) = shS (j + k) s := by
  funext n
  unfold shS
  by_cases c : j ≤ n
  · rw [if_pos c]
    by_cases d : k ≤ n - j
    · rw [if_pos d, if_pos (by omega), show n - j - k = n - (j + k) by omega]
    · rw [if_neg d, if_neg (by omega)]
  · rw [if_neg c, if_neg (by omega)]
theorem sh_sub (k : Nat) (s t : SQ) : shS k (fun n => s n - t n) = fun n => shS k s n - shS k t n := by
  funext n
  unfold shS
  split
  · rfl
  · rw [Int64.sub_zero]
theorem sh_add (k : Nat) (s t : SQ) : shS k (fun n => s n + t n) = fun n => shS k s n + shS k t n := by
  funext n
  unfold shS
  split
  · rfl
  · rw [Int64.add_zero]
theorem mul_mul (j k : Nat) (s : SQ) : mulX j (mulX k s) = mulX k (mulX j s) := by
  funext n
  have e1 : mulX j (mulX k s) n = (s n - shS k s n) - shS j (fun n => s n - shS k s n) n := rfl
  have e2 : mulX k (mulX j s) n = (s n - shS j s n) - shS k (fun n => s n - shS j s n) n := rfl
  have e3 : shS j (shS k s) n = shS k (shS j s) n := by rw [sh_sh, sh_sh, Nat.add_comm]
  rw [e1, e2, sh_sub, sh_sub]
  show (s n - shS k s n) - (shS j s n - shS j (shS k s) n) = (s n - shS j s n) - (shS k s n - shS k (shS j s) n)
  grind
theorem mul_inj {k : Nat} (hk : 1 ≤ k) {s t : SQ} (h : mulX k s = mulX k t) : s = t := by
  funext n
  have key : ∀ m n : Nat, n ≤ m → s n = t n := by
    intro m
    induction m with
    | zero =>
      intro n h1
      have := congrFun h n
      unfold mulX shS at this
      rw [if_neg (by omega), if_neg (by omega), Int64.sub_zero, Int64.sub_zero] at this
      exact this
    | succ m ih =>
      intro n h1
      have := congrFun h n
      unfold mulX shS at this
      by_cases c : k ≤ n
      · rw [if_pos c, if_pos c, ih (n - k) (by omega)] at this
        grind
      · rw [if_neg c, if_neg c, Int64.sub_zero, Int64.sub_zero] at this
        exact this
  exact key n n (Nat.le_refl _)
theorem div_mul {k : Nat} (hk : 1 ≤ k) (s : SQ) : divX k (mulX k s) = s := mul_inj hk (mul_div hk _)
theorem mul_divX {j k : Nat} (hk : 1 ≤ k) (s : SQ) : mulX j (divX k s) = divX k (mulX j s) := by
  apply mul_inj hk
  rw [mul_div hk, ← mul_mul, mul_div hk]
/-- times 1 + the power k is times 1 - the power 2 k, over 1 - the power k -/
theorem plus_eq {k : Nat} (hk : 1 ≤ k) (s : SQ) : plusX k s = divX k (mulX (2 * k) s) := by
  apply mul_inj hk
  rw [mul_div hk]
  funext n
  have e1 : mulX k (plusX k s) n = (s n + shS k s n) - shS k (fun n => s n + shS k s n) n := rfl
  rw [e1, sh_add]
  show (s n + shS k s n) - (shS k s n + shS k (shS k s) n) = s n - shS (2 * k) s n
  rw [sh_sh, show k + k = 2 * k by omega]
  grind
def itr (f : SQ → SQ) : Nat → SQ → SQ
  | 0, s => s
  | n + 1, s => f (itr f n s)
theorem itr_in (f : SQ → SQ) : ∀ (n : Nat) (s : SQ), itr f (n + 1) s = itr f n (f s)
  | 0, _ => rfl
  | n + 1, s => by
    show f (itr f (n + 1) s) = f (itr f n (f s))
    rw [itr_in f n s]
theorem Lk_itr {f : SQ → SQ} (hf : ∀ {s t : SQ}, Lk s t → Lk (f s) (f t)) : ∀ (n : Nat) {s t : SQ}, Lk s t → Lk (itr f n s) (itr f n t)
  | 0, _, _, h => h
  | n + 1, _, _, h => hf (Lk_itr hf n h)
/-- the numbers of (1 - y) to the e-th, as Product.choose makes them -/
def chN (e : Nat) : Nat → Int64
  | 0 => 1
  | j + 1 => (-(chN e j) * Int64.ofInt ((e : Int) - ((j : Int) + 1) + 1)) / Int64.ofInt ((j : Int) + 1)
theorem chN_pas : (List.range 20).all (fun e => (List.range 21).all (fun j => chN (e + 1) (j + 1) == chN e (j + 1) - chN e j)) = true := by decide +kernel
theorem chN_end : (List.range 21).all (fun e => chN e (e + 1) == 0) = true := by decide +kernel
theorem chN_pascal {e j : Nat} (he : e < 20) (hj : j < 21) : chN (e + 1) (j + 1) = chN e (j + 1) - chN e j := by
  have h1 := List.all_eq_true.mp chN_pas e (List.mem_range.mpr he)
  have h2 := List.all_eq_true.mp h1 j (List.mem_range.mpr hj)
  exact eq_of_beq h2
theorem chN_last {e : Nat} (he : e ≤ 20) : chN e (e + 1) = 0 := eq_of_beq (List.all_eq_true.mp chN_end e (List.mem_range.mpr (by omega)))
/-- what the choices 1 .. p bring to place n -/
def br (c : Nat → Int64) (s : SQ) (k n : Nat) : Nat → Int64
  | 0 => 0
  | p + 1 => br c s k n p + c (p + 1) * shS ((p + 1) * k) s n
theorem br_ext {c : Nat → Int64} {s t : SQ} {k n : Nat} (hk : 1 ≤ k) (h : ∀ m, m < n → s m = t m) : ∀ p, br c s k n p = br c t k n p
  | 0 => rfl
  | p + 1 => by
    show br c s k n p + c (p + 1) * shS ((p + 1) * k) s n = br c t k n p + c (p + 1) * shS ((p + 1) * k) t n
    rw [br_ext hk h p]
    have e : shS ((p + 1) * k) s n = shS ((p + 1) * k) t n := by
      unfold shS
      split
      · have hm : 1 ≤ (p + 1) * k := Nat.le_trans hk (Nat.le_mul_of_pos_left _ (by omega))
        exact h _ (by omega)
      · rfl
    rw [e]
theorem br_far {c : Nat → Int64} {s : SQ} {k n p : Nat} (h : n < (p + 1) * k) : ∀ q, p ≤ q → br c s k n q = br c s k n p
  | 0, hq => by rw [show p = 0 by omega]
  | q + 1, hq => by
    by_cases e : p = q + 1
    · rw [e]
    · show br c s k n q + c (q + 1) * shS ((q + 1) * k) s n = _
      rw [br_far h q (by omega)]
      have : shS ((q + 1) * k) s n = 0 := by
        unfold shS
        have := Nat.mul_le_mul_right k (show p + 1 ≤ q + 1 by omega)
        rw [if_neg (by omega)]
      rw [this]
      simp
theorem sh_scale (k : Nat) (c : Int64) (s : SQ) : shS k (fun n => c * s n) = fun n => c * shS k s n := by
  funext n
  unfold shS
  split
  · rfl
  · simp
/-- (1 - y) to the e-th, at once -/
def MP (e k : Nat) (s : SQ) : SQ := fun n => s n + br (chN e) s k n e
theorem br_step {e k : Nat} (he : e < 20) (s : SQ) (n : Nat) : ∀ p : Nat, p ≤ 20 → s n + br (chN (e + 1)) s k n (p + 1) = (s n + br (chN e) s k n (p + 1)) - shS k (fun m => s m + br (chN e) s k m p) n
  | 0, _ => by
    have e1 : shS k (fun m => s m + br (chN e) s k m 0) n = shS k s n := by
      show shS k (fun m => s m + 0) n = _
      simp
    rw [e1]
    show s n + (0 + chN (e + 1) (0 + 1) * shS ((0 + 1) * k) s n) = s n + (0 + chN e (0 + 1) * shS ((0 + 1) * k) s n) - shS k s n
    rw [chN_pascal he (by omega), show (0 + 1) * k = k by omega]
    have : chN e 0 = 1 := rfl
    rw [this]
    grind
  | p + 1, hp => by
    have ih := br_step he s n p (by omega) (k := k)
    have e1 : shS k (fun m => s m + br (chN e) s k m (p + 1)) n = shS k (fun m => s m + br (chN e) s k m p) n + chN e (p + 1) * shS ((p + 1 + 1) * k) s n := by
      have e2 : (fun m => s m + br (chN e) s k m (p + 1)) = fun m => (fun x => s x + br (chN e) s k x p) m + (fun x => chN e (p + 1) * shS ((p + 1) * k) s x) m := by
        funext m
        show s m + (br (chN e) s k m p + chN e (p + 1) * shS ((p + 1) * k) s m) = s m + br (chN e) s k m p + chN e (p + 1) * shS ((p + 1) * k) s m
        grind
      rw [e2, sh_add, sh_scale, sh_sh, show k + (p + 1) * k = (p + 1 + 1) * k by rw [Nat.add_mul (p + 1) 1 k]; omega]
    rw [e1]
    show s n + (br (chN (e + 1)) s k n (p + 1) + chN (e + 1) (p + 1 + 1) * shS ((p + 1 + 1) * k) s n) = s n + (br (chN e) s k n (p + 1) + chN e (p + 1 + 1) * shS ((p + 1 + 1) * k) s n) - _
    rw [chN_pascal he (by omega)]
    grind
theorem MP_succ {e k : Nat} (he : e < 20) (s : SQ) : MP (e + 1) k s = mulX k (MP e k s) := by
  funext n
  have h := br_step he s n e (by omega) (k := k)
  have e0 : br (chN e) s k n (e + 1) = br (chN e) s k n e := by
    show br (chN e) s k n e + chN e (e + 1) * shS ((e + 1) * k) s n = _
    rw [chN_last (by omega)]
    simp
  rw [e0] at h
  exact h
theorem MP_itr {k : Nat} (s : SQ) : ∀ e : Nat, e ≤ 20 → MP e k s = itr (mulX k) e s
  | 0, _ => by
    funext n
    show s n + 0 = s n
    simp
  | e + 1, he => by
    rw [MP_succ (by omega), MP_itr s e (by omega)]
    rfl
theorem itr_div {k : Nat} (hk : 1 ≤ k) : ∀ (e : Nat) (s : SQ), itr (mulX k) e (itr (divX k) e s) = s
  | 0, _ => rfl
  | e + 1, s => by
    rw [itr_in]
    show itr (mulX k) e (mulX k (divX k (itr (divX k) e s))) = s
    rw [mul_div hk, itr_div hk e s]
theorem Lk_of_itr {k : Nat} (hk : 1 ≤ k) : ∀ (e : Nat) {s t : SQ}, Lk (itr (mulX k) e s) (itr (mulX k) e t) → Lk s t
  | 0, _, _, h => h
  | e + 1, s, t, h => Lk_of_itr hk e (Lk.of_mul hk h)
/-- what Product.overPower makes -/
theorem over_lk {e k : Nat} (hk : 1 ≤ k) (he : e ≤ 20) {s t : SQ} (h : ∀ n, n ≤ 400 → t n = s n - br (chN e) t k n e) : Lk t (itr (divX k) e s) := by
  refine Lk_of_itr hk e ?_
  rw [itr_div hk, ← MP_itr t e he]
  intro n hn
  have := h n hn
  unfold MP
  grind
/-- times or over 1 - the power k, so often -/
def pwX (k : Nat) (e : Int) (s : SQ) : SQ := if 0 ≤ e then itr (mulX k) e.toNat s else itr (divX k) (-e).toNat s
theorem Lk_pw {k : Nat} (hk : 1 ≤ k) {e : Int} {s t : SQ} (h : Lk s t) : Lk (pwX k e s) (pwX k e t) := by
  unfold pwX
  split
  · exact Lk_itr (fun h => h.mul k) _ h
  · exact Lk_itr (fun h => h.div hk) _ h
def facs (m : Nat) (e : Int) : Nat → Nat → SQ → SQ
  | 0, _, s => s
  | f + 1, k, s => if k ≤ 400 then facs m e f (k + m) (pwX k e s) else s
theorem facs_far {m : Nat} {e : Int} {k : Nat} {s : SQ} (h : 400 < k) : ∀ f, facs m e f k s = s
  | 0 => rfl
  | f + 1 => by
    show (if k ≤ 400 then _ else s) = s
    rw [if_neg (by omega)]
theorem Lk_facs {m : Nat} {e : Int} : ∀ (f k : Nat) {s t : SQ}, 1 ≤ k → Lk s t → Lk (facs m e f k s) (facs m e f k t)
  | 0, _, _, _, _, h => h
  | f + 1, k, s, t, hk, h => by
    show Lk (if k ≤ 400 then _ else s) (if k ≤ 400 then _ else t)
    split
    · exact Lk_facs f (k + m) (by omega) (Lk_pw hk h)
    · exact h
/-- all the factors -/
def facX (m r : Nat) (e : Int) (s : SQ) : SQ := facs m e 401 (if r = 0 then m else r) s
def oneS : SQ := fun n => if n = 0 then 1 else 0
