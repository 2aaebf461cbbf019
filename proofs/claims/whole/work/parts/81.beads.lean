/-! beads: pushed down, by runners, one down -/
theorem cB_far {B : BF} {k : Nat} : ∀ T, k ≤ T → (∀ p, k ≤ p → B p = false) → cB B T = cB B k
  | 0, h, _ => by rw [show k = 0 by omega]
  | T + 1, h, hz => by
    by_cases e : k = T + 1
    · rw [e]
    · show cB B T + (if B T then 1 else 0) = _
      rw [hz T (by omega), cB_far T (by omega) hz]
      rfl
theorem pB_far {B : BF} {k : Nat} : ∀ T, k ≤ T → (∀ p, k ≤ p → B p = false) → pB B T = pB B k
  | 0, h, _ => by rw [show k = 0 by omega]
  | T + 1, h, hz => by
    by_cases e : k = T + 1
    · rw [e]
    · show pB B T + (if B T then T else 0) = _
      rw [hz T (by omega), pB_far T (by omega) hz]
      rfl
/-- beads on runner r -/
def rcN (B : BF) (t r : Nat) : Nat := cB (runB B t r) 1300
theorem run_far {B : BF} {T t r : Nat} (ht : 1 ≤ t) (hr : r < T) (hB : ∀ p, T ≤ p → B p = false) : ∀ i, plcN T t r ≤ i → runB B t r i = false := fun i hi => by
  have : ¬ r + t * i < T := fun w => by have := (plcN_iff ht hr).mpr w; omega
  exact hB _ (by omega)
theorem plcN_le {T t r : Nat} (ht : 1 ≤ t) (hr : r < T) : plcN T t r ≤ T := by
  rcases Nat.lt_or_ge T (plcN T t r) with z | z
  · have := (plcN_iff ht hr).mp z
    have := Nat.le_mul_of_pos_left T (show 0 < t by omega)
    omega
  · exact z
theorem rcN_eq {B : BF} {T t r : Nat} (ht : 1 ≤ t) (hr : r < T) (hT : T ≤ 1300) (hB : ∀ p, T ≤ p → B p = false) : cB (runB B t r) (plcN T t r) = rcN B t r := by
  unfold rcN
  have := plcN_le (T := T) (t := t) (r := r) ht hr
  exact (cB_far 1300 (by omega) (run_far ht hr hB)).symm
theorem rcN_le {B : BF} {T t r : Nat} (ht : 1 ≤ t) (hr : r < T) (hT : T ≤ 1300) (hB : ∀ p, T ≤ p → B p = false) : rcN B t r ≤ plcN T t r := by
  rw [← rcN_eq ht hr hT hB]
  exact cB_le _ _
/-- pushed down -/
def coB (B : BF) (t : Nat) : BF := fun p => decide (p / t < rcN B t (p % t))
theorem dm {t r i : Nat} (hr : r < t) : (r + t * i) % t = r ∧ (r + t * i) / t = i := by
  constructor
  · rw [Nat.add_mul_mod_self_left, Nat.mod_eq_of_lt hr]
  · rw [Nat.add_mul_div_left _ _ (by omega), Nat.div_eq_of_lt hr, Nat.zero_add]
theorem coB_run {B : BF} {t r : Nat} (hr : r < t) : runB (coB B t) t r = fun i => decide (i < rcN B t r) := by
  funext i
  unfold runB coB
  rw [(dm hr).1, (dm hr).2]
theorem coB_far {B : BF} {T t : Nat} (ht : 1 ≤ t) (h12 : t ≤ T) (hT : T ≤ 1300) (hB : ∀ p, T ≤ p → B p = false) : ∀ p, T ≤ p → coB B t p = false := fun p hp => by
  unfold coB
  have hr : p % t < t := Nat.mod_lt _ (by omega)
  have h1 := rcN_le (B := B) (T := T) (t := t) (r := p % t) ht (by omega) hT hB
  have h2 : ¬ p / t < plcN T t (p % t) := fun w => by
    have := (plcN_iff (T := T) (r := p % t) ht (by omega)).mp w
    have e := Nat.mod_add_div p t
    omega
  simp
  omega
/-- pushing down makes no SUM greater -/
theorem coB_e {B : BF} {T t : Nat} (ht : 1 ≤ t) (h12 : t ≤ T) (hT : T ≤ 1300) (hB : ∀ p, T ≤ p → B p = false) : eB (coB B t) T ≤ eB B T := by
  have hm : T ≤ t * 1300 := by
    have := Nat.mul_le_mul_right 1300 ht
    omega
  have hC := coB_far ht h12 hT hB
  have e1 := eB_pB B (t * 1300)
  have e2 := eB_pB (coB B t) (t * 1300)
  rw [eB_far _ hm hB] at e1
  rw [eB_far _ hm hC] at e2
  have hr13 : ∀ r, r < t → rcN B t r ≤ 1300 := fun r _ => cB_le _ _
  have hc : cB (coB B t) (t * 1300) = cB B (t * 1300) := by
    rw [cB_runs, cB_runs]
    refine sN_ext t (fun r hr => ?_)
    rw [coB_run hr, (pB_low 1300).2, Nat.min_eq_left (hr13 r hr)]
    rfl
  have hp : pB (coB B t) (t * 1300) ≤ pB B (t * 1300) := by
    rw [pB_runs, pB_runs]
    refine sN_le t (fun r hr => ?_)
    rw [coB_run hr, (pB_low 1300).1, (pB_low 1300).2, Nat.min_eq_left (hr13 r hr)]
    have h1 := tz_le_pB (runB B t r) 1300
    have h2 : tz (rcN B t r) ≤ pB (runB B t r) 1300 := h1
    have h3 := Nat.mul_le_mul_left t h2
    show t * tz (rcN B t r) + r * rcN B t r ≤ t * pB (runB B t r) 1300 + r * rcN B t r
    omega
  rw [hc] at e2
  omega
/-- one runner reads no more than all -/
theorem free_run {B : BF} {t r : Nat} (ht : 1 ≤ t) : ∀ m, m - cB (runB B t r) m ≤ (r + t * m) - cB B (r + t * m)
  | 0 => by
    have : 0 - cB (runB B t r) 0 = 0 := by omega
    omega
  | m + 1 => by
    have ih := free_run (B := B) (r := r) ht m
    have mono : ∀ S T, S ≤ T → S - cB B S ≤ T - cB B T := by
      intro S T
      induction T with
      | zero => intro h; rw [show S = 0 by omega]; exact Nat.le_refl _
      | succ T ihT =>
        intro h
        by_cases e : S = T + 1
        · rw [e]; exact Nat.le_refl _
        · have h1 := ihT (by omega)
          have h2 := cB_le B T
          show _ ≤ T + 1 - (cB B T + (if B T then 1 else 0))
          split <;> omega
    have h1 := mono (r + t * m + 1) (r + t * (m + 1)) (by rw [Nat.mul_succ]; omega)
    have h2 := cB_le B (r + t * m)
    have h3 := cB_le (runB B t r) m
    have e1 : cB B (r + t * m + 1) = cB B (r + t * m) + (if B (r + t * m) then 1 else 0) := rfl
    have e2 : cB (runB B t r) (m + 1) = cB (runB B t r) m + (if B (r + t * m) then 1 else 0) := rfl
    rw [e2]
    rw [e1] at h1
    split at h1 <;> (rename_i hb; first | rw [if_pos hb] | rw [if_neg hb]) <;> omega
theorem run_e {B : BF} {t r : Nat} (ht : 1 ≤ t) (hr : r < t) : ∀ m, eB (runB B t r) m ≤ eB B (t * m)
  | 0 => Nat.zero_le _
  | m + 1 => by
    have ih := run_e (B := B) (r := r) ht hr m
    have hf := free_run (B := B) (r := r) ht m
    have h1 : eB B (r + t * m + 1) ≤ eB B (t * (m + 1)) := eB_mono (by rw [Nat.mul_succ]; omega)
    have h2 : eB B (t * m) ≤ eB B (r + t * m) := eB_mono (by omega)
    have e1 : eB B (r + t * m + 1) = eB B (r + t * m) + (if B (r + t * m) then r + t * m - cB B (r + t * m) else 0) := rfl
    show eB (runB B t r) m + (if B (r + t * m) then m - cB (runB B t r) m else 0) ≤ _
    rw [e1] at h1
    split at h1 <;> (rename_i hb; first | rw [if_pos hb] | rw [if_neg hb]) <;> omega
theorem run_e' {B : BF} {T t r : Nat} (ht : 1 ≤ t) (hr : r < t) (h12 : t ≤ T) (hT : T ≤ 1300) (hB : ∀ p, T ≤ p → B p = false) : eB (runB B t r) (plcN T t r) ≤ eB B T := by
  have h1 := run_e (B := B) ht hr 1300
  have hm : T ≤ t * 1300 := by
    have := Nat.mul_le_mul_right 1300 ht
    omega
  rw [eB_far _ hm hB] at h1
  have h2 := plcN_le (T := T) (t := t) (r := r) ht (by omega)
  rw [eB_far 1300 (by omega) (run_far ht (by omega) hB)] at h1
  exact h1
/-- the greatest bead that can go down by t -/
def PkB (B : BF) (t p : Nat) : Prop := t ≤ p ∧ B p = true ∧ B (p - t) = false ∧ ∀ x, p < x → ¬ (B x = true ∧ B (x - t) = false)
theorem PkB.uniq {B : BF} {t p p' : Nat} (h : PkB B t p) (h' : PkB B t p') : p = p' := by
  obtain ⟨a1, a2, a3, a4⟩ := h
  obtain ⟨b1, b2, b3, b4⟩ := h'
  rcases Nat.lt_trichotomy p p' with e | e | e
  · exact absurd ⟨b2, b3⟩ (a4 p' e)
  · exact e
  · exact absurd ⟨a2, a3⟩ (b4 p e)
def dnB (B : BF) (t p : Nat) : BF := upB (upB B p false) (p - t) true
theorem dnB_e {B : BF} {T t p : Nat} (ht : 1 ≤ t) (hT : p < T) (h : PkB B t p) : eB (dnB B t p) T ≤ eB B T := by
  obtain ⟨a1, a2, a3, _⟩ := h
  have e0 : upB B p false p = false := by unfold upB; rw [if_pos rfl]
  have e1 : upB (upB B p false) p true = B := by
    funext x
    unfold upB
    by_cases e : x = p
    · rw [if_pos e, e, a2]
    · rw [if_neg e, if_neg e]
  have e2 : upB B p false (p - t) = false := by unfold upB; split; rfl; exact a3
  have c1 := cB_up e0 T hT
  have p1 := pB_up e0 T hT
  have c2 := cB_up e2 T (by omega)
  have p2 := pB_up e2 T (by omega)
  rw [e1] at c1 p1
  have x1 := eB_pB B T
  have x2 := eB_pB (dnB B t p) T
  have hc : cB (dnB B t p) T = cB B T := by unfold dnB; omega
  have hp : pB (dnB B t p) T + t = pB B T := by unfold dnB; omega
  rw [hc] at x2
  omega
