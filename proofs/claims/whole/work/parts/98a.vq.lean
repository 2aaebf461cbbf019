/-! fillings: powers of primes in the numbers up to 30, all of it decided -/
def mulV : Nat → Nat → Nat → Nat
  | 0, _, _ => 0
  | f + 1, q, m => bif Nat.beq (m % q) 0 then 1 + mulV f q (m / q) else 0
def prB (q : Nat) : Bool := [2, 3, 5, 7, 11, 13, 17, 19, 23, 29].contains q
/-- how often the prime q goes into m -/
def vqN (q m : Nat) : Nat := bif (prB q && Nat.ble 1 m) then mulV 6 q m else 0
/-- m with the primes below q taken out -/
def rsN : Nat → Nat → Nat
  | 0, m => m
  | q + 1, m => rsN q m / q ^ vqN q m
def ldN (v : Nat) : Nat := ((List.range 31).find? (fun d => Nat.ble 2 d && Nat.beq (v % d) 0)).getD v
def prodQ (f : Nat → Nat) : Nat → Nat
  | 0 => 1
  | k + 1 => prodQ f k * (k + 2) ^ f (k + 2)
def fct : Nat → Nat
  | 0 => 1
  | n + 1 => (n + 1) * fct n
def vqB1 (m q j : Nat) : Bool := decide (2 ≤ q → 1 ≤ m → j < vqN q m → rsN q m / q ^ j % q = 0)
def vqB2 (m q : Nat) : Bool := decide (2 ≤ q → 1 ≤ m → ¬ (rsN q m / q ^ vqN q m % q = 0) ∧ vqN q m ≤ 5 ∧ 1 ≤ rsN q m ∧ rsN q m ≤ 30)
def vqB3 (m q p : Nat) : Bool := decide (2 ≤ q → 1 ≤ m → rsN q m ≤ 1 → q ≤ p → vqN p m = 0)
set_option maxRecDepth 100000 in
theorem vqB1_t : ∀ m < 31, ∀ q < 31, ∀ j < 6, vqB1 m q j = true := by decide +kernel
set_option maxRecDepth 100000 in
theorem vqB2_t : ∀ m < 31, ∀ q < 31, vqB2 m q = true := by decide +kernel
set_option maxRecDepth 100000 in
theorem vqB3_t : ∀ m < 31, ∀ q < 32, ∀ p < 31, vqB3 m q p = true := by decide +kernel
set_option maxRecDepth 100000 in
theorem vq_rs : ∀ m < 31, rsN 2 m = m := by decide +kernel
set_option maxRecDepth 100000 in
theorem vq_prod : ∀ m < 31, 1 ≤ m → prodQ (fun q => vqN q m) 29 = m := by decide +kernel
theorem vq_out {m q : Nat} (hm : m < 31) (hq : q < 31) (q2 : 2 ≤ q) (m1 : 1 ≤ m) : ¬ (rsN q m / q ^ vqN q m % q = 0) ∧ vqN q m ≤ 5 ∧ 1 ≤ rsN q m ∧ rsN q m ≤ 30 := of_decide_eq_true (vqB2_t m hm q hq) q2 m1
theorem vq_in {m q j : Nat} (hm : m < 31) (hq : q < 31) (q2 : 2 ≤ q) (m1 : 1 ≤ m) (h : j < vqN q m) : rsN q m / q ^ j % q = 0 := of_decide_eq_true (vqB1_t m hm q hq j (by have := (vq_out hm hq q2 m1).2.1; omega)) q2 m1 h
theorem vq_end {m q p : Nat} (hm : m < 31) (hq : q < 32) (q2 : 2 ≤ q) (m1 : 1 ≤ m) (h : rsN q m ≤ 1) (hp : p < 31) (hqp : q ≤ p) : vqN p m = 0 := of_decide_eq_true (vqB3_t m hm q hq p hp) q2 m1 h hqp
def ldB0 (v : Nat) : Bool := decide (4 ≤ v → ldN v ≤ v ∧ 2 ≤ ldN v ∧ (ldN v = v → prB v = true))
set_option maxRecDepth 100000 in
theorem ldB0_t : ∀ v < 31, ldB0 v = true := by decide +kernel
theorem ld_bd {v : Nat} (hv : v < 31) (h4 : 4 ≤ v) : ldN v ≤ v ∧ 2 ≤ ldN v ∧ (ldN v = v → prB v = true) := of_decide_eq_true (ldB0_t v hv) h4
def ldB (v q : Nat) : Bool := decide (4 ≤ v → ldN v < v → v % ldN v = 0 ∧ prB v = false ∧ v / ldN v < v ∧ 2 ≤ v / ldN v ∧ vqN q v = vqN q (ldN v) + vqN q (v / ldN v))
set_option maxRecDepth 100000 in
theorem ldB_t : ∀ v < 31, ∀ q < 31, ldB v q = true := by decide +kernel
theorem ld_lt {v q : Nat} (hv : v < 31) (hq : q < 31) (h4 : 4 ≤ v) (h : ldN v < v) : v % ldN v = 0 ∧ prB v = false ∧ v / ldN v < v ∧ 2 ≤ v / ldN v ∧ vqN q v = vqN q (ldN v) + vqN q (v / ldN v) := of_decide_eq_true (ldB_t v hv q hq) h4 h
def ldC (v x : Nat) : Bool := decide (4 ≤ v → 2 ≤ x → (List.range x).all (fun d => Nat.ble d 1 || !Nat.beq (v % d) 0) = true → (v < x * x → ldN v = v) ∧ (v % x = 0 → ldN v = x))
set_option maxRecDepth 100000 in
theorem ldC_t : ∀ v < 31, ∀ x < 7, ldC v x = true := by decide +kernel
theorem ld_stop {v x : Nat} (hv : v < 31) (hx : x < 7) (h4 : 4 ≤ v) (x2 : 2 ≤ x) (h : ∀ d < x, 2 ≤ d → v % d ≠ 0) : (v < x * x → ldN v = v) ∧ (v % x = 0 → ldN v = x) := by
  refine of_decide_eq_true (ldC_t v hv x hx) h4 x2 ?_
  rw [List.all_eq_true]
  intro d hd
  rw [List.mem_range] at hd
  by_cases c : d ≤ 1
  · rw [show Nat.ble d 1 = true from Nat.ble_eq.mpr c]
    rfl
  · have := h d hd (by omega)
    rw [show Nat.beq (v % d) 0 = false from Bool.eq_false_iff.mpr (fun w => this (Nat.eq_of_beq_eq_true w))]
    exact Bool.or_true _
def prB1 (q u : Nat) : Bool := decide (prB q = true → vqN q q = 1 ∧ (u ≠ q → (prB u = true ∨ u ≤ 1) → vqN q u = 0))
set_option maxRecDepth 100000 in
theorem prB1_t : ∀ q < 31, ∀ u < 31, prB1 q u = true := by decide +kernel
theorem pr_pr {q u : Nat} (hq : q < 31) (hu : u < 31) (h : prB q = true) : vqN q q = 1 ∧ (u ≠ q → (prB u = true ∨ u ≤ 1) → vqN q u = 0) := of_decide_eq_true (prB1_t q hq u hu) h
theorem pr_no {q : Nat} (h : prB q = false) (u : Nat) : vqN q u = 0 := by
  unfold vqN
  rw [h]
  rfl
theorem vq_small (q : Nat) : q < 31 → vqN q 0 = 0 ∧ vqN q 1 = 0 := by
  intro hq
  refine ⟨?_, ?_⟩
  · unfold vqN
    rw [show Nat.ble 1 0 = false from rfl, Bool.and_false]
    rfl
  · by_cases c : prB q = true
    · by_cases e : 1 = q
      · subst e
        exact absurd c (by decide)
      · exact (pr_pr hq (by omega) c).2 e (Or.inr (by omega))
    · exact pr_no (by simpa using c) 1
def prB2 (q u : Nat) : Bool := decide (prB q = true → prB u = true → q ≠ u → Nat.gcd q u = 1)
set_option maxRecDepth 100000 in
theorem prB2_t : ∀ q < 31, ∀ u < 31, prB2 q u = true := by decide +kernel
theorem pr_co {q u : Nat} (hq : q < 31) (hu : u < 31) (h : prB q = true) (h2 : prB u = true) (hn : q ≠ u) : Nat.gcd q u = 1 := of_decide_eq_true (prB2_t q hq u hu) h h2 hn
theorem pr_23 : prB 2 = true ∧ prB 3 = true := by decide
