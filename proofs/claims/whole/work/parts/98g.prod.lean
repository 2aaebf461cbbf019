/-! filling: n! over the hooks is a whole number where the hooks go into n! -/
def FN (l : List Int) : Nat := prodQ (fun q => (exL l q).toNat) 29
theorem pw64_nat {x v : Int} : ∀ n : Nat, pw64 (Int64.ofInt x) (Int64.ofInt v) n = Int64.ofInt (x * v ^ n)
  | 0 => by
    rw [Int.pow_zero, Int.mul_one]
    rfl
  | n + 1 => by
    show pw64 (Int64.ofInt x) (Int64.ofInt v) n * Int64.ofInt v = _
    rw [pw64_nat n, ← Int64.ofInt_mul, Int.pow_succ, Int.mul_assoc]
theorem fj_nat {e : Nat → Int} : ∀ k : Nat, fjP e k = Int64.ofInt ((prodQ (fun q => (e q).toNat) k : Nat) : Int)
  | 0 => rfl
  | k + 1 => by
    show pw64 (fjP e k) (Int64.ofInt ((k : Int) + 2)) (e (k + 2)).toNat = Int64.ofInt ((prodQ (fun q => (e q).toNat) k * (k + 2) ^ (e (k + 2)).toNat : Nat) : Int)
    rw [fj_nat k, pw64_nat, Int.natCast_mul, Int.natCast_pow]
    rfl
theorem fj_FN (l : List Int) : fjP (exL l) 29 = Int64.ofInt (FN l : Int) := fj_nat 29
theorem prodQ_add {x y : Nat → Nat} : ∀ k : Nat, prodQ (fun q => x q + y q) k = prodQ x k * prodQ y k
  | 0 => rfl
  | k + 1 => by
    show prodQ (fun q => x q + y q) k * (k + 2) ^ (x (k + 2) + y (k + 2)) = (prodQ x k * (k + 2) ^ x (k + 2)) * (prodQ y k * (k + 2) ^ y (k + 2))
    rw [prodQ_add k, Nat.pow_add]
    exact Nat.mul_mul_mul_comm _ _ _ _
theorem prodQ_ext {x y : Nat → Nat} : ∀ k : Nat, (∀ q, 2 ≤ q → q ≤ k + 1 → x q = y q) → prodQ x k = prodQ y k
  | 0, _ => rfl
  | k + 1, h => by
    show prodQ x k * (k + 2) ^ x (k + 2) = prodQ y k * (k + 2) ^ y (k + 2)
    rw [prodQ_ext k (fun q q1 q2 => h q q1 (by omega)), h (k + 2) (by omega) (by omega)]
theorem prodQ_zero : ∀ k : Nat, prodQ (fun _ => 0) k = 1
  | 0 => rfl
  | k + 1 => by
    show prodQ (fun _ => 0) k * (k + 2) ^ 0 = 1
    rw [prodQ_zero k, Nat.pow_zero]
theorem prodQ_pos {x : Nat → Nat} : ∀ k : Nat, 1 ≤ prodQ x k
  | 0 => Nat.le_refl _
  | k + 1 => Nat.mul_pos (prodQ_pos k) (Nat.pow_pos (by omega))
def prF (f : Int → Nat) : Nat → Nat
  | 0 => 1
  | n + 1 => prF f n * f (n : Int)
def hPr : List Int → Nat
  | [] => 1
  | a :: t => prF (fun j => (a - j + colN t j).toNat) a.toNat * hPr t
theorem row_prod {h : Int → Int} : ∀ n : Nat, (∀ j : Int, 0 ≤ j → j < (n : Int) → 1 ≤ h j ∧ h j ≤ 30) → prodQ (fun q => (sm (fun j => vqI q (h j)) n).toNat) 29 = prF (fun j => (h j).toNat) n
  | 0, _ => prodQ_zero 29
  | n + 1, hb => by
    have h1 := hb (n : Int) (by omega) (by omega)
    have ih := row_prod n (fun j j0 j1 => hb j j0 (by omega))
    have e : prodQ (fun q => (sm (fun j => vqI q (h j)) (n + 1)).toNat) 29 = prodQ (fun q => (sm (fun j => vqI q (h j)) n).toNat + vqN q (h (n : Int)).toNat) 29 := by
      refine prodQ_ext 29 (fun q q1 q2 => ?_)
      show (sm (fun j => vqI q (h j)) n + vqI q (h (n : Int))).toNat = _
      have := sm_ge0 (f := fun j => vqI q (h j)) n (fun j _ _ => by show 0 ≤ vqI q (h j); unfold vqI; omega)
      unfold vqI at this ⊢
      omega
    rw [e, prodQ_add, ih, vq_prod (h (n : Int)).toNat (by omega) (by omega)]
    rfl
theorem hSm_ge {q : Nat} : ∀ l : List Int, 0 ≤ hSm (vqI q) l
  | [] => Int.le_refl _
  | a :: t => by
    have h1 := hSm_ge (q := q) t
    have h2 := sm_ge0 (f := fun j => vqI q (a - j + colN t j)) a.toNat (fun j _ _ => by show 0 ≤ vqI q (a - j + colN t j); unfold vqI; omega)
    show 0 ≤ sm (fun j => vqI q (a - j + colN t j)) a.toNat + hSm (vqI q) t
    omega
theorem hPr_eq : ∀ l : List Int, Pt l → l.sum ≤ 30 → prodQ (fun q => (hSm (vqI q) l).toNat) 29 = hPr l
  | [], _, _ => prodQ_zero 29
  | a :: t, hp, hs => by
    have ha := Pt_head hp
    have hs' := hs
    rw [List.sum_cons] at hs'
    have ih := hPr_eq t (Pt_tail hp) (by omega)
    have rp := row_prod (h := fun j => a - j + colN t j) a.toNat (fun j j0 j1 => by
      have := hk_bd0 hp j0 (show j < a by omega)
      omega)
    have e : prodQ (fun q => (hSm (vqI q) (a :: t)).toNat) 29 = prodQ (fun q => (sm (fun j => vqI q (a - j + colN t j)) a.toNat).toNat + (hSm (vqI q) t).toNat) 29 := by
      refine prodQ_ext 29 (fun q q1 q2 => ?_)
      show (sm (fun j => vqI q (a - j + colN t j)) a.toNat + hSm (vqI q) t).toNat = _
      have h1 := hSm_ge (q := q) t
      have h2 := sm_ge0 (f := fun j => vqI q (a - j + colN t j)) a.toNat (fun j _ _ => by show 0 ≤ vqI q (a - j + colN t j); unfold vqI; omega)
      omega
    rw [e, prodQ_add, ih, rp]
    rfl
theorem fct_eq : ∀ n : Nat, n ≤ 30 → prodQ (fun q => (sm (vqI q) (n + 1)).toNat) 29 = fct n
  | 0, _ => by
    have e : prodQ (fun q => (sm (vqI q) (0 + 1)).toNat) 29 = prodQ (fun _ => 0) 29 := by
      refine prodQ_ext 29 (fun q q1 q2 => ?_)
      show (0 + vqI q ((0 : Nat) : Int)).toNat = 0
      unfold vqI
      rw [Int.toNat_natCast, (vq_small q (by omega)).1]
      rfl
    rw [e, prodQ_zero]
    rfl
  | n + 1, h => by
    have ih := fct_eq n (by omega)
    have e : prodQ (fun q => (sm (vqI q) (n + 1 + 1)).toNat) 29 = prodQ (fun q => (sm (vqI q) (n + 1)).toNat + vqN q (n + 1)) 29 := by
      refine prodQ_ext 29 (fun q q1 q2 => ?_)
      show (sm (vqI q) (n + 1) + vqI q ((n + 1 : Nat) : Int)).toNat = _
      have := sm_ge0 (f := vqI q) (n + 1) (fun j _ _ => by unfold vqI; omega)
      rw [show vqI q ((n + 1 : Nat) : Int) = (vqN q (n + 1) : Int) by unfold vqI; rw [Int.toNat_natCast]]
      omega
    rw [e, prodQ_add, ih, vq_prod (n + 1) (by omega) (by omega), Nat.mul_comm]
    rfl
theorem prodQ_co1 {x : Nat → Nat} {b : Nat} : ∀ k : Nat, (∀ q, 2 ≤ q → q ≤ k + 1 → Nat.Coprime (q ^ x q) b) → Nat.Coprime (prodQ x k) b
  | 0, _ => Nat.coprime_one_left b
  | k + 1, h => Nat.Coprime.mul_left (prodQ_co1 k (fun q q1 q2 => h q q1 (by omega))) (h (k + 2) (by omega) (by omega))
theorem prodQ_co2 {y : Nat → Nat} {b : Nat} : ∀ k : Nat, (∀ q, 2 ≤ q → q ≤ k + 1 → Nat.Coprime b (q ^ y q)) → Nat.Coprime b (prodQ y k)
  | 0, _ => Nat.coprime_one_right b
  | k + 1, h => Nat.Coprime.mul_right (prodQ_co2 k (fun q q1 q2 => h q q1 (by omega))) (h (k + 2) (by omega) (by omega))
theorem no_ex {l : List Int} {q : Nat} (h : prB q = false) : sm (vqI q) (l.sum.toNat + 1) = 0 ∧ hSm (vqI q) l = 0 := by
  have e : vqI q = fun _ => 0 := by
    funext v
    unfold vqI
    rw [pr_no h]
    rfl
  rw [e]
  refine ⟨sm_zero _, ?_⟩
  induction l with
  | nil => rfl
  | cons a t ih =>
    show sm (fun _ => 0) a.toNat + hSm (fun _ => 0) t = 0
    rw [sm_zero, ih]
    rfl
theorem FN_mul {l : List Int} (hp : Pt l) (hs : l.sum ≤ 30) (hd : hPr l ∣ fct l.sum.toNat) : FN l * hPr l = fct l.sum.toNat := by
  obtain ⟨X, hX⟩ := hd
  have hl := hp.len
  have e1 := hPr_eq l hp hs
  have e2 := fct_eq l.sum.toNat (by omega)
  have a0 : ∀ q, 0 ≤ sm (vqI q) (l.sum.toNat + 1) := fun q => sm_ge0 (f := vqI q) _ (fun j _ _ => by unfold vqI; omega)
  have b0 : ∀ q, 0 ≤ hSm (vqI q) l := fun q => hSm_ge l
  have e3 : FN l * hPr l = fct l.sum.toNat * prodQ (fun q => (hSm (vqI q) l - sm (vqI q) (l.sum.toNat + 1)).toNat) 29 := by
    unfold FN
    rw [← e1, ← e2, ← prodQ_add, ← prodQ_add]
    refine prodQ_ext 29 (fun q q1 q2 => ?_)
    have h1 := a0 q
    have h2 := b0 q
    unfold exL
    omega
  have hco : Nat.Coprime (prodQ (fun q => (hSm (vqI q) l - sm (vqI q) (l.sum.toNat + 1)).toNat) 29) (FN l) := by
    refine prodQ_co1 29 (fun q q1 q2 => prodQ_co2 29 (fun r r1 r2 => ?_))
    by_cases c : q = r
    · subst c
      by_cases w : hSm (vqI q) l ≤ sm (vqI q) (l.sum.toNat + 1)
      · rw [show (hSm (vqI q) l - sm (vqI q) (l.sum.toNat + 1)).toNat = 0 by omega, Nat.pow_zero]
        exact Nat.coprime_one_left _
      · rw [show (exL l q).toNat = 0 by unfold exL; omega, Nat.pow_zero]
        exact Nat.coprime_one_right _
    · cases hq : prB q with
      | false =>
        have := no_ex (l := l) hq
        rw [this.1, this.2, show ((0 : Int) - 0).toNat = 0 by rfl, Nat.pow_zero]
        exact Nat.coprime_one_left _
      | true =>
        cases hr : prB r with
        | false =>
          have := no_ex (l := l) hr
          rw [show (exL l r).toNat = 0 by unfold exL; rw [this.1, this.2]; rfl, Nat.pow_zero]
          exact Nat.coprime_one_right _
        | true => exact Nat.Coprime.pow _ _ (pr_co (by omega) (by omega) hq hr c)
  generalize prodQ (fun q => (hSm (vqI q) l - sm (vqI q) (l.sum.toNat + 1)).toNat) 29 = W at *
  have hP : 0 < hPr l := by
    rw [← e1]
    exact prodQ_pos 29
  have e4 : FN l = X * W := by
    have : FN l * hPr l = (X * W) * hPr l := by rw [e3, hX, Nat.mul_assoc, Nat.mul_comm (hPr l)]
    exact Nat.eq_of_mul_eq_mul_right hP this
  have hW : W = 1 := hco.eq_one_of_dvd ⟨X, by rw [e4, Nat.mul_comm]⟩
  rw [e3, hW, Nat.mul_one]
theorem FN_div {l : List Int} (hp : Pt l) (hs : l.sum ≤ 30) (hd : hPr l ∣ fct l.sum.toNat) : FN l = fct l.sum.toNat / hPr l := by
  have h := FN_mul hp hs hd
  refine Nat.eq_div_of_mul_eq_left ?_ h
  have hP : 0 < hPr l := by
    rw [← hPr_eq l hp hs]
    exact prodQ_pos 29
  omega
