/-! join: beads of a wider abacus, runners that hold sums -/
theorem stB_iff {l : List Int} {W : Nat} : ∀ k p, stB l W k p = true ↔ ∃ i, i < k ∧ p = fB l W i
  | 0, p => ⟨fun h => absurd h (by simp [stB]), fun ⟨i, hi, _⟩ => by omega⟩
  | k + 1, p => by
    show upB (stB l W k) (fB l W k) true p = true ↔ _
    unfold upB
    by_cases e : p = fB l W k
    · rw [if_pos e]
      exact ⟨fun _ => ⟨k, by omega, e⟩, fun _ => rfl⟩
    · rw [if_neg e, stB_iff k p]
      constructor
      · intro ⟨i, hi, w⟩
        exact ⟨i, by omega, w⟩
      · intro ⟨i, hi, w⟩
        by_cases e2 : i = k
        · rw [e2] at w
          exact absurd w e
        · exact ⟨i, by omega, w⟩
/-- c full places below -/
def shfB (B : BF) (c : Nat) : BF := fun p => if p < c then true else B (p - c)
theorem stB_sh {l : List Int} {W c : Nat} (hW : l.length ≤ W) : stB l (W + c) (W + c) = shfB (stB l W W) c := by
  funext p
  rw [Bool.eq_iff_iff, stB_iff]
  unfold shfB
  by_cases h : p < c
  · rw [if_pos h]
    refine ⟨fun _ => rfl, fun _ => ⟨W + c - 1 - p, by omega, ?_⟩⟩
    unfold fB
    rw [ga_out (by omega)]
    show p = 0 + (W + c) - 1 - (W + c - 1 - p)
    omega
  · rw [if_neg h, stB_iff]
    constructor
    · intro ⟨i, hi, e⟩
      by_cases c2 : i < W
      · exact ⟨i, c2, by unfold fB at *; omega⟩
      · unfold fB at e
        rw [ga_out (by omega)] at e
        have e : p = 0 + (W + c) - 1 - i := e
        omega
    · intro ⟨i, hi, e⟩
      exact ⟨i, by omega, by unfold fB at *; omega⟩
theorem cB_full {B : BF} : ∀ k, (∀ i, i < k → B i = true) → cB B k = k
  | 0, _ => rfl
  | k + 1, h => by
    show cB B k + (if B k then 1 else 0) = k + 1
    rw [cB_full k (fun i hi => h i (by omega)), if_pos (h k (by omega))]
theorem cB_mono {B : BF} : ∀ {S T : Nat}, S ≤ T → cB B S ≤ cB B T
  | S, 0, h => by rw [show S = 0 by omega]; exact Nat.le_refl _
  | S, T + 1, h => by
    by_cases e : S = T + 1
    · rw [e]; exact Nat.le_refl _
    · have := cB_mono (B := B) (show S ≤ T by omega)
      show cB B S ≤ cB B T + _
      omega
theorem cB_sh {B : BF} {c : Nat} : ∀ T, cB (shfB B c) (T + c) = cB B T + c
  | 0 => by
    rw [Nat.zero_add, cB_full c (fun i hi => by unfold shfB; rw [if_pos hi])]
    show c = 0 + c
    omega
  | T + 1 => by
    rw [show T + 1 + c = (T + c) + 1 by omega]
    show cB (shfB B c) (T + c) + (if shfB B c (T + c) then 1 else 0) = cB B T + (if B T then 1 else 0) + c
    rw [cB_sh T, show shfB B c (T + c) = B T by unfold shfB; rw [if_neg (by omega), Nat.add_sub_cancel]]
    omega
theorem rdL_full {B : BF} : ∀ k, (∀ i, i < k → B i = true) → rdL B k = []
  | 0, _ => rfl
  | k + 1, h => by
    show (if B k = true ∧ cB B k < k then _ else rdL B k) = []
    rw [cB_full k (fun i hi => h i (by omega)), if_neg (by omega)]
    exact rdL_full k (fun i hi => h i (by omega))
theorem rdL_sh {B : BF} {c : Nat} : ∀ T, rdL (shfB B c) (T + c) = rdL B T
  | 0 => by
    rw [Nat.zero_add]
    exact rdL_full c (fun i hi => by unfold shfB; rw [if_pos hi])
  | T + 1 => by
    rw [show T + 1 + c = (T + c) + 1 by omega]
    show (if shfB B c (T + c) = true ∧ cB (shfB B c) (T + c) < T + c then ((T + c - cB (shfB B c) (T + c) : Nat) : Int) :: rdL (shfB B c) (T + c) else rdL (shfB B c) (T + c)) = (if B T = true ∧ cB B T < T then ((T - cB B T : Nat) : Int) :: rdL B T else rdL B T)
    rw [rdL_sh T, cB_sh T, show shfB B c (T + c) = B T by unfold shfB; rw [if_neg (by omega), Nat.add_sub_cancel], show T + c - (cB B T + c) = T - cB B T by omega]
    by_cases h : B T = true ∧ cB B T < T
    · rw [if_pos h, if_pos ⟨h.1, by omega⟩]
    · rw [if_neg h, if_neg (fun w => h ⟨w.1, by omega⟩)]
theorem runB_sh {B : BF} {t r c : Nat} (hr : r < t) : runB (shfB B (t * c)) t r = shfB (runB B t r) c := by
  funext i
  show (if r + t * i < t * c then true else B (r + t * i - t * c)) = (if i < c then true else B (r + t * (i - c)))
  by_cases h : i < c
  · have : t * (i + 1) ≤ t * c := Nat.mul_le_mul_left _ (by omega)
    rw [Nat.mul_succ] at this
    rw [if_pos h, if_pos (by omega)]
  · have : t * c ≤ t * i := Nat.mul_le_mul_left _ (by omega)
    rw [if_neg h, if_neg (by omega), Nat.mul_sub, show r + t * i - t * c = r + (t * i - t * c) by omega]
theorem rcN_sh {B : BF} {t r c k : Nat} (hr : r < t) (hk : k + c ≤ 1300) (hB : ∀ i, k ≤ i → runB B t r i = false) : rcN (shfB B (t * c)) t r = rcN B t r + c := by
  unfold rcN
  rw [runB_sh hr]
  have := cB_sh (B := runB B t r) (c := c) (1300 - c)
  rw [show 1300 - c + c = 1300 by omega] at this
  rw [this, cB_far 1300 (show k ≤ 1300 by omega) hB, cB_far (1300 - c) (show k ≤ 1300 - c by omega) hB]
/-- runner r holds the sum q r -/
def jB (l : List Int) (q : Nat → List Int) (t W : Nat) : BF := fun p => stB (q (p % t)) (rcN (stB l W W) t (p % t)) (rcN (stB l W W) t (p % t)) (p / t)
theorem jB_run {l : List Int} {q : Nat → List Int} {t W r : Nat} (hr : r < t) : runB (jB l q t W) t r = stB (q r) (rcN (stB l W W) t r) (rcN (stB l W W) t r) := by
  funext i
  show jB l q t W (r + t * i) = _
  unfold jB
  rw [(dm hr).1, (dm hr).2]
theorem jB_sh {l : List Int} {q : Nat → List Int} {t W c : Nat} (t0 : 1 ≤ t) (t1 : t ≤ 12) (hp : Pt l) (hl : l.length ≤ W) (hW : W + t * c ≤ 411) (hq : ∀ r, r < t → (q r).length ≤ rcN (stB l W W) t r) : jB l q t (W + t * c) = shfB (jB l q t W) (t * c) := by
  funext p
  have hr : p % t < t := Nat.mod_lt _ (by omega)
  have hc : c ≤ t * c := Nat.le_mul_of_pos_left c (by omega)
  have far : ∀ x, 811 ≤ x → stB l W W x = false := fun x hx => stB_far hp W (Nat.le_refl _) x (by omega)
  have e1 : rcN (stB l (W + t * c) (W + t * c)) t (p % t) = rcN (stB l W W) t (p % t) + c := by
    rw [stB_sh hl]
    exact rcN_sh (k := 811) hr (by omega) (fun i hi => far _ (by
      have := Nat.le_mul_of_pos_left i (show 0 < t by omega)
      omega))
  unfold jB
  rw [e1, stB_sh (hq _ hr)]
  unfold shfB
  have hdm := Nat.mod_add_div p t
  by_cases h : p / t < c
  · have : t * (p / t + 1) ≤ t * c := Nat.mul_le_mul_left _ (by omega)
    rw [Nat.mul_succ] at this
    rw [if_pos h, if_pos (by omega)]
  · have h2 : t * c ≤ t * (p / t) := Nat.mul_le_mul_left _ (by omega)
    rw [if_neg h, if_neg (by omega)]
    have e2 : p - t * c = p % t + t * (p / t - c) := by rw [Nat.mul_sub]; omega
    show _ = stB (q ((p - t * c) % t)) (rcN (stB l W W) t ((p - t * c) % t)) (rcN (stB l W W) t ((p - t * c) % t)) ((p - t * c) / t)
    rw [e2, (dm hr).1, (dm hr).2]
/-- low places are full -/
theorem low_rc {l : List Int} {t W r k : Nat} (hr : r < t) (hW : W ≤ 411) (hk : t * k + l.length ≤ W) : k ≤ rcN (stB l W W) t r := by
  have hk2 : k ≤ t * k := Nat.le_mul_of_pos_left k (by omega)
  have : cB (runB (stB l W W) t r) k = k := cB_full k (fun i hi => by
    have h1 : t * (i + 1) ≤ t * k := Nat.mul_le_mul_left _ (by omega)
    rw [Nat.mul_succ] at h1
    show stB l W W (r + t * i) = true
    rw [stB_iff]
    refine ⟨W - 1 - (r + t * i), by omega, ?_⟩
    unfold fB
    rw [ga_out (by omega)]
    show r + t * i = 0 + W - 1 - (W - 1 - (r + t * i))
    omega)
  unfold rcN
  have h2 := cB_mono (B := runB (stB l W W) t r) (show k ≤ 1300 by omega)
  omega
def sQ (q : Nat → List Int) (t : Nat) : Nat := sN (fun r => (q r).sum.toNat) t
theorem sN_mulA {f g : Nat → Nat} {t : Nat} : ∀ n, sN (fun r => t * (f r + g r)) n = t * sN f n + sN (fun r => t * g r) n
  | 0 => rfl
  | n + 1 => by
    show sN (fun r => t * (f r + g r)) n + t * (f n + g n) = t * (sN f n + f n) + (sN (fun r => t * g r) n + t * g n)
    rw [sN_mulA n, Nat.mul_add, Nat.mul_add]
    omega
theorem rc_bd {l : List Int} {t W r : Nat} (t0 : 1 ≤ t) (t1 : t ≤ 12) (hp : Pt l) (hW : W ≤ 411) (hr : r < t) : rcN (stB l W W) t r ≤ 811 := by
  have h1 := rcN_le (B := stB l W W) (T := 811) (t := t) (r := r) t0 (by omega) (by omega) (fun x hx => stB_far hp W (Nat.le_refl _) x (by omega))
  have h2 := plcN_le (T := 811) (t := t) (r := r) t0 (by omega)
  omega
theorem jB_cp {l : List Int} {q : Nat → List Int} {t W : Nat} (t0 : 1 ≤ t) (t1 : t ≤ 12) (hp : Pt l) (hW : W ≤ 411) (hq : ∀ r, r < t → Pt (q r) ∧ (q r).length ≤ rcN (stB l W W) t r) : cB (jB l q t W) (t * 1300) = cB (coB (stB l W W) t) (t * 1300) ∧ pB (jB l q t W) (t * 1300) = pB (coB (stB l W W) t) (t * 1300) + t * sQ q t := by
  have key : ∀ r, r < t → cB (runB (jB l q t W) t r) 1300 = cB (runB (coB (stB l W W) t) t r) 1300 ∧ pB (runB (jB l q t W) t r) 1300 = (q r).sum.toNat + pB (runB (coB (stB l W W) t) t r) 1300 := fun r hr => by
    have hb := rc_bd t0 t1 hp hW hr
    have h1 := stB_cp (T := 1300) (hq r hr).1 (show 400 + rcN (stB l W W) t r ≤ 1300 by omega) _ (Nat.le_refl _)
    have h2 := pB_low (n := rcN (stB l W W) t r) 1300
    have h3 := sum_fB (W := rcN (stB l W W) t r) (hq r hr).1 _ (Nat.le_refl _)
    have h4 := sum_ga (l := q r) (hq r hr).1.1 (rcN (stB l W W) t r)
    rw [List.take_of_length_le (hq r hr).2] at h4
    rw [jB_run hr, coB_run hr, h1.1, h1.2, h2.1, h2.2, Nat.min_eq_left (by omega)]
    rw [Nat.sub_self] at h3
    have : tz 0 = 0 := rfl
    exact ⟨rfl, by omega⟩
  refine ⟨?_, ?_⟩
  · rw [cB_runs, cB_runs]
    exact sN_ext t (fun r hr => (key r hr).1)
  · rw [pB_runs, pB_runs, sN_add, sN_add, sN_ext t (fun r hr => by rw [(key r hr).2]) (g := fun r => t * ((q r).sum.toNat + pB (runB (coB (stB l W W) t) t r) 1300)), sN_mulA, sN_ext t (f := fun r => r * cB (runB (jB l q t W) t r) 1300) (fun r hr => by rw [(key r hr).1])]
    unfold sQ
    omega
