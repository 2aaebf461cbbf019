/-! what the constructors lay into the memory, as a list of deeds (the last one first) -/
abbrev ZO : Type := Nat × Nat × Nat × Int
def stO (σ : ZM) (o : ZO) : ZM := match o.1 with
  | 0 => znew σ o.2.2.1 o.2.2.2.toNat
  | 1 => wR σ o.2.1 (o.2.2.1 : Int) o.2.2.2.toNat
  | 2 => wI σ o.2.1 (o.2.2.1 : Int) o.2.2.2
  | _ => zmult σ o.2.2.1 o.2.2.2.toNat
def ruO : List ZO → ZM → ZM
  | [], σ => σ
  | o :: l, σ => stO (ruO l σ) o
def nxO : List ZO → Nat
  | [] => 2
  | o :: l => match o.1 with
    | 0 => nxO l + 1
    | 1 => nxO l
    | 2 => nxO l
    | _ => nxO l + 1 + o.2.2.1
def okO : List ZO → Bool
  | [] => true
  | o :: l => okO l && (match o.1 with
    | 0 => Nat.beq o.2.1 (nxO l)
    | 1 => true
    | 2 => true
    | _ => Nat.beq o.2.1 (nxO l))
def lkS : List ZO → Nat → Nat × Nat
  | [], _ => (0, 0)
  | o :: l, a => match o.1 with
    | 0 => bif Nat.beq a o.2.1 then (o.2.2.1, o.2.2.2.toNat) else lkS l a
    | 1 => lkS l a
    | 2 => lkS l a
    | _ => bif Nat.beq a o.2.1 then (105, o.2.2.1) else bif Nat.blt o.2.1 a && Nat.ble a (o.2.1 + o.2.2.1) then (101, o.2.2.2.toNat) else lkS l a
def lkR : List ZO → Nat → Nat → Nat
  | [], _, _ => 0
  | o :: l, a, j => match o.1 with
    | 0 => bif Nat.beq a o.2.1 then 0 else lkR l a j
    | 1 => bif Nat.beq a o.2.1 && Nat.beq j o.2.2.1 then o.2.2.2.toNat else lkR l a j
    | 2 => lkR l a j
    | _ => bif Nat.beq a o.2.1 then (bif Nat.blt j o.2.2.1 then o.2.1 + 1 + j else 0) else bif Nat.blt o.2.1 a && Nat.ble a (o.2.1 + o.2.2.1) then 0 else lkR l a j
/-- the ints laid into a cell -/
def wlI : List ZO → Nat → List (Nat × Int)
  | [], _ => []
  | o :: l, a => match o.1 with
    | 0 => bif Nat.beq a o.2.1 then [] else wlI l a
    | 1 => wlI l a
    | 2 => bif Nat.beq a o.2.1 then (o.2.2.1, o.2.2.2) :: wlI l a else wlI l a
    | _ => bif Nat.ble o.2.1 a && Nat.ble a (o.2.1 + o.2.2.1) then [] else wlI l a
def lkW : List (Nat × Int) → Int → Int
  | [], _ => 0
  | p :: t, j => if j = (p.1 : Int) then p.2 else lkW t j
theorem bq {a b : Nat} : Nat.beq a b = decide (a = b) := by
  by_cases c : a = b
  · subst c
    rw [Nat.beq_refl, decide_eq_true rfl]
  · rw [decide_eq_false c]
    exact Bool.eq_false_iff.mpr (fun w => c (Nat.eq_of_beq_eq_true w))
theorem nb {a b : Nat} : Nat.ble a b = decide (a ≤ b) := by
  by_cases c : a ≤ b
  · rw [decide_eq_true c]
    exact Nat.ble_eq.mpr c
  · rw [decide_eq_false c]
    exact Bool.eq_false_iff.mpr (fun w => c (Nat.ble_eq.mp w))
theorem nl {a b : Nat} : Nat.blt a b = decide (a < b) := nb
theorem opN {σ : ZM} (h0 : zN σ = 2) : ∀ l : List ZO, zN (ruO l σ) = nxO l
  | [] => h0
  | (k, a, b, c) :: l => by
    have ih := opN h0 l
    match k with
    | 0 => exact congrArg (· + 1) ih
    | 1 => exact ih
    | 2 => exact ih
    | k + 3 => 
      show zN (ruO l σ) + 1 + b = nxO l + 1 + b
      rw [ih]
theorem okO_t {o : ZO} {l : List ZO} (h : okO (o :: l) = true) : okO l = true := by
  unfold okO at h
  rw [Bool.and_eq_true] at h
  exact h.1
theorem op_two : ∀ l : List ZO, 2 ≤ nxO l
  | [] => Nat.le_refl _
  | (k, a, b, c) :: l => by
    have ih := op_two l
    match k with
    | 0 => exact Nat.le_succ_of_le ih
    | 1 => exact ih
    | 2 => exact ih
    | k + 3 =>
      show 2 ≤ nxO l + 1 + b
      omega
theorem opS {σ : ZM} (h0 : zN σ = 2) : ∀ l : List ZO, okO l = true → ∀ a, 2 ≤ a → a < nxO l → zS (ruO l σ) a = lkS l a
  | [], _, a, a0, a1 => by
    have : nxO [] = 2 := rfl
    omega
  | (k, a', b, c) :: l, ho, a, a0, a1 => by
    have ih := opS h0 l (okO_t ho) a a0
    have hN := opN h0 l
    match k with
    | 0 =>
      have e : a' = nxO l := by
        unfold okO at ho
        rw [Bool.and_eq_true] at ho
        exact Nat.eq_of_beq_eq_true ho.2
      show (if a = zN (ruO l σ) then (b, c.toNat) else zS (ruO l σ) a) = bif Nat.beq a a' then (b, c.toNat) else lkS l a
      have a1' : a < nxO l + 1 := a1
      rw [hN, bq, e]
      by_cases w : a = nxO l
      · rw [if_pos w, decide_eq_true w]
        rfl
      · rw [if_neg w, decide_eq_false w, ih (by omega)]
        rfl
    | 1 => exact ih a1
    | 2 => exact ih a1
    | k + 3 =>
      have e : a' = nxO l := by
        unfold okO at ho
        rw [Bool.and_eq_true] at ho
        exact Nat.eq_of_beq_eq_true ho.2
      show (if a = zN (ruO l σ) then (105, b) else if zN (ruO l σ) < a ∧ a ≤ zN (ruO l σ) + b then (101, c.toNat) else zS (ruO l σ) a) = bif Nat.beq a a' then (105, b) else bif Nat.blt a' a && Nat.ble a (a' + b) then (101, c.toNat) else lkS l a
      have a1' : a < nxO l + 1 + b := a1
      rw [hN, bq, nl, nb, e]
      by_cases w : a = nxO l
      · rw [if_pos w, decide_eq_true w]
        rfl
      · rw [if_neg w, decide_eq_false w]
        by_cases w2 : nxO l < a ∧ a ≤ nxO l + b
        · rw [if_pos w2, decide_eq_true w2.1, decide_eq_true w2.2]
          rfl
        · rw [if_neg w2, ih (by omega)]
          have : (decide (nxO l < a) && decide (a ≤ nxO l + b)) = false := by
            rw [Bool.and_eq_false_iff, decide_eq_false_iff_not, decide_eq_false_iff_not]
            omega
          rw [this]
          rfl
theorem opR {σ : ZM} (h0 : zN σ = 2) : ∀ l : List ZO, okO l = true → ∀ (a j : Nat), 2 ≤ a → a < nxO l → zR (ruO l σ) a (j : Int) = lkR l a j
  | [], _, a, j, a0, a1 => by
    have : nxO [] = 2 := rfl
    omega
  | (k, a', b, c) :: l, ho, a, j, a0, a1 => by
    have ih := opR h0 l (okO_t ho) a j a0
    have hN := opN h0 l
    match k with
    | 0 =>
      have e : a' = nxO l := by
        unfold okO at ho
        rw [Bool.and_eq_true] at ho
        exact Nat.eq_of_beq_eq_true ho.2
      show (if a = zN (ruO l σ) then 0 else zR (ruO l σ) a (j : Int)) = bif Nat.beq a a' then 0 else lkR l a j
      have a1' : a < nxO l + 1 := a1
      rw [hN, bq, e]
      by_cases w : a = nxO l
      · rw [if_pos w, decide_eq_true w]
        rfl
      · rw [if_neg w, decide_eq_false w, ih (by omega)]
        rfl
    | 1 =>
      show (if a = a' ∧ (j : Int) = (b : Int) then c.toNat else zR (ruO l σ) a (j : Int)) = bif Nat.beq a a' && Nat.beq j b then c.toNat else lkR l a j
      rw [bq, bq]
      by_cases w : a = a' ∧ (j : Int) = (b : Int)
      · rw [if_pos w, decide_eq_true w.1, decide_eq_true (show j = b by omega)]
        rfl
      · rw [if_neg w, ih a1]
        have : (decide (a = a') && decide (j = b)) = false := by
          rw [Bool.and_eq_false_iff, decide_eq_false_iff_not, decide_eq_false_iff_not]
          omega
        rw [this]
        rfl
    | 2 => exact ih a1
    | k + 3 =>
      have e : a' = nxO l := by
        unfold okO at ho
        rw [Bool.and_eq_true] at ho
        exact Nat.eq_of_beq_eq_true ho.2
      show (if a = zN (ruO l σ) then (if 0 ≤ (j : Int) ∧ (j : Int) < (b : Int) then zN (ruO l σ) + 1 + ((j : Int)).toNat else 0) else if zN (ruO l σ) < a ∧ a ≤ zN (ruO l σ) + b then 0 else zR (ruO l σ) a (j : Int)) = bif Nat.beq a a' then (bif Nat.blt j b then a' + 1 + j else 0) else bif Nat.blt a' a && Nat.ble a (a' + b) then 0 else lkR l a j
      have a1' : a < nxO l + 1 + b := a1
      rw [hN, bq, nl, nl, nb, e, Int.toNat_natCast]
      by_cases w : a = nxO l
      · rw [if_pos w, decide_eq_true w]
        by_cases w3 : j < b
        · rw [if_pos (by omega), decide_eq_true w3]
          rfl
        · rw [if_neg (by omega), decide_eq_false w3]
          rfl
      · rw [if_neg w, decide_eq_false w]
        by_cases w2 : nxO l < a ∧ a ≤ nxO l + b
        · rw [if_pos w2, decide_eq_true w2.1, decide_eq_true w2.2]
          rfl
        · rw [if_neg w2, ih (by omega)]
          have : (decide (nxO l < a) && decide (a ≤ nxO l + b)) = false := by
            rw [Bool.and_eq_false_iff, decide_eq_false_iff_not, decide_eq_false_iff_not]
            omega
          rw [this]
          rfl
theorem opI {σ : ZM} (h0 : zN σ = 2) : ∀ l : List ZO, okO l = true → ∀ (a : Nat) (j : Int), 2 ≤ a → a < nxO l → zI (ruO l σ) a j = lkW (wlI l a) j ∧ zJ (ruO l σ) a j = 0
  | [], _, a, j, a0, a1 => by
    have : nxO [] = 2 := rfl
    omega
  | (k, a', b, c) :: l, ho, a, j, a0, a1 => by
    have ih := opI h0 l (okO_t ho) a j a0
    have hN := opN h0 l
    match k with
    | 0 =>
      have e : a' = nxO l := by
        unfold okO at ho
        rw [Bool.and_eq_true] at ho
        exact Nat.eq_of_beq_eq_true ho.2
      show (if a = zN (ruO l σ) then 0 else zI (ruO l σ) a j) = lkW (bif Nat.beq a a' then [] else wlI l a) j ∧ (if a = zN (ruO l σ) then 0 else zJ (ruO l σ) a j) = 0
      have a1' : a < nxO l + 1 := a1
      rw [hN, bq, e]
      by_cases w : a = nxO l
      · rw [if_pos w, if_pos w, decide_eq_true w]
        exact ⟨rfl, rfl⟩
      · rw [if_neg w, if_neg w, decide_eq_false w]
        exact ih (by omega)
    | 1 => exact ih a1
    | 2 =>
      show (if a = a' ∧ j = (b : Int) then c else zI (ruO l σ) a j) = lkW (bif Nat.beq a a' then (b, c) :: wlI l a else wlI l a) j ∧ zJ (ruO l σ) a j = 0
      refine ⟨?_, (ih a1).2⟩
      rw [bq]
      by_cases w : a = a'
      · rw [decide_eq_true w]
        show _ = if j = (b : Int) then c else lkW (wlI l a) j
        by_cases w2 : j = (b : Int)
        · rw [if_pos ⟨w, w2⟩, if_pos w2]
        · rw [if_neg (fun v => w2 v.2), if_neg w2, (ih a1).1]
      · rw [if_neg (fun v => w v.1), decide_eq_false w]
        exact (ih a1).1
    | k + 3 =>
      have e : a' = nxO l := by
        unfold okO at ho
        rw [Bool.and_eq_true] at ho
        exact Nat.eq_of_beq_eq_true ho.2
      show (if zN (ruO l σ) ≤ a ∧ a ≤ zN (ruO l σ) + b then 0 else zI (ruO l σ) a j) = lkW (bif Nat.ble a' a && Nat.ble a (a' + b) then [] else wlI l a) j ∧ (if zN (ruO l σ) ≤ a ∧ a ≤ zN (ruO l σ) + b then 0 else zJ (ruO l σ) a j) = 0
      have a1' : a < nxO l + 1 + b := a1
      rw [hN, nb, nb, e]
      by_cases w2 : nxO l ≤ a ∧ a ≤ nxO l + b
      · rw [if_pos w2, if_pos w2, decide_eq_true w2.1, decide_eq_true w2.2]
        exact ⟨rfl, rfl⟩
      · rw [if_neg w2, if_neg w2]
        have : (decide (nxO l ≤ a) && decide (a ≤ nxO l + b)) = false := by
          rw [Bool.and_eq_false_iff, decide_eq_false_iff_not, decide_eq_false_iff_not]
          omega
        rw [this]
        exact ih (by omega)
/-- the script's cell stays -/
theorem op1 {σ : ZM} (h0 : zN σ = 2) : ∀ l : List ZO, l.all (fun o => Nat.ble 2 o.2.1) = true → zS (ruO l σ) 1 = zS σ 1 ∧ ∀ j, zI (ruO l σ) 1 j = zI σ 1 j
  | [], _ => ⟨rfl, fun _ => rfl⟩
  | (k, a', b, c) :: l, ho => by
    rw [List.all_cons, Bool.and_eq_true] at ho
    have ha : 2 ≤ a' := Nat.ble_eq.mp ho.1
    have ih := op1 h0 l ho.2
    have hN := opN h0 l
    have h2 := op_two l
    match k with
    | 0 =>
      refine ⟨?_, fun j => ?_⟩
      · show (if 1 = zN (ruO l σ) then _ else zS (ruO l σ) 1) = _
        rw [hN, if_neg (by omega)]
        exact ih.1
      · show (if 1 = zN (ruO l σ) then _ else zI (ruO l σ) 1 j) = _
        rw [hN, if_neg (by omega)]
        exact ih.2 j
    | 1 => exact ih
    | 2 =>
      refine ⟨ih.1, fun j => ?_⟩
      show (if 1 = a' ∧ j = (b : Int) then c else zI (ruO l σ) 1 j) = _
      rw [if_neg (by omega)]
      exact ih.2 j
    | k + 3 =>
      refine ⟨?_, fun j => ?_⟩
      · show (if 1 = zN (ruO l σ) then _ else if zN (ruO l σ) < 1 ∧ 1 ≤ zN (ruO l σ) + b then _ else zS (ruO l σ) 1) = _
        rw [hN, if_neg (by omega), if_neg (by omega)]
        exact ih.1
      · show (if zN (ruO l σ) ≤ 1 ∧ 1 ≤ zN (ruO l σ) + b then _ else zI (ruO l σ) 1 j) = _
        rw [hN, if_neg (by omega)]
        exact ih.2 j
def obB (l : List ZO) (a t : Nat) : Bool := okO l && (Nat.ble 2 a && (Nat.blt a (nxO l) && Nat.beq (lkS l a).1 t))
theorem op_obj {σ : ZM} (h0 : zN σ = 2) {l : List ZO} {a t : Nat} (h : obB l a t = true) : zobj (ruO l σ) a t := by
  unfold obB at h
  rw [Bool.and_eq_true, Bool.and_eq_true, Bool.and_eq_true] at h
  have h2 : 2 ≤ a := Nat.ble_eq.mp h.2.1
  have h3 : a < nxO l := Nat.ble_eq.mp h.2.2.1
  refine ⟨h2, by rw [opN h0]; exact h3, ?_⟩
  rw [opS h0 l h.1 a h2 h3]
  exact Nat.eq_of_beq_eq_true h.2.2.2
def arB (l : List ZO) (a t i : Nat) : Bool := okO l && (Nat.ble 2 a && (Nat.blt a (nxO l) && (Nat.beq (lkS l a).1 t && Nat.blt i (lkS l a).2)))
theorem op_arr {σ : ZM} (h0 : zN σ = 2) {l : List ZO} {a t i : Nat} (h : arB l a t i = true) : zarr (ruO l σ) a t (i : Int) := by
  unfold arB at h
  rw [Bool.and_eq_true, Bool.and_eq_true, Bool.and_eq_true, Bool.and_eq_true] at h
  have h2 : 2 ≤ a := Nat.ble_eq.mp h.2.1
  have h3 : a < nxO l := Nat.ble_eq.mp h.2.2.1
  have h5 : i < (lkS l a).2 := Nat.ble_eq.mp h.2.2.2.2
  refine ⟨h2, by rw [opN h0]; exact h3, ?_, by omega, ?_⟩
  · rw [opS h0 l h.1 a h2 h3]
    exact Nat.eq_of_beq_eq_true h.2.2.2.1
  · rw [opS h0 l h.1 a h2 h3]
    omega
