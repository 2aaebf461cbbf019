/-! the memory behind both constructors: where the loop begins -/
set_option maxRecDepth 100000 in
theorem okF : okO oF = true := by decide +kernel
set_option maxRecDepth 100000 in
theorem nF : nxO oF = 211 := by decide +kernel
set_option maxRecDepth 100000 in
theorem sF : ∀ a < 211, 2 ≤ a → lkS oF a = sh0 a := by decide +kernel
set_option maxRecDepth 100000 in
theorem rF2 : ∀ j < 11, lkR oF 2 j = r0 2 (j : Int) := by decide +kernel
set_option maxRecDepth 100000 in
theorem rF3 : ∀ j < 8, lkR oF 3 j = r0 3 (j : Int) := by decide +kernel
set_option maxRecDepth 100000 in
theorem rF4 : ∀ j < 8, lkR oF 4 j = r0 4 (j : Int) := by decide +kernel
set_option maxRecDepth 100000 in
theorem rF5 : ∀ j < 4, lkR oF 5 j = r0 5 (j : Int) := by decide +kernel
set_option maxRecDepth 100000 in
theorem rF10 : ∀ j < 2, lkR oF 10 j = r0 10 (j : Int) := by decide +kernel
set_option maxRecDepth 100000 in
theorem rF11 : ∀ j < 60, lkR oF 11 j = r0 11 (j : Int) := by decide +kernel
set_option maxRecDepth 100000 in
theorem rF137 : ∀ j < 3, lkR oF 137 j = r0 137 (j : Int) := by decide +kernel
set_option maxRecDepth 100000 in
theorem rF146 : ∀ j < 4, lkR oF 146 j = r0 146 (j : Int) := by decide +kernel
set_option maxRecDepth 100000 in
theorem rF154 : ∀ j < 2, lkR oF 154 j = r0 154 (j : Int) := by decide +kernel
set_option maxRecDepth 100000 in
theorem rF192 : ∀ j < 27, lkR oF 192 j = r0 192 (j : Int) := by decide +kernel
def aBq (a : Nat) : Bool := (Nat.ble 13 a && (Nat.blt a 133 && Nat.beq (a % 2) 1)) || ([133, 135, 138, 140, 142, 144, 150, 152, 155, 158].contains a || (Nat.ble 160 a && (Nat.blt a 192 && Nat.beq (a % 2) 0)))
def aBr (a : Nat) : Bool := !aBq a || Nat.beq (lkR oF a 0) (r0 a 0)
set_option maxRecDepth 100000 in
theorem rFa : ∀ a < 192, aBr a = true := by decide +kernel
def exI (a : Nat) : List (Nat × Int) := if a = 138 then [(2, -1)] else if a = 140 then [(1, -1)] else if a = 144 ∨ (176 ≤ a ∧ a < 192 ∧ a % 2 = 0) then [(11, 2), (3, 1), (2, 0), (1, -1)] else if a = 152 then [(1, 2)] else if a = 192 then [(9, -1)] else []
set_option maxRecDepth 100000 in
theorem iF : ∀ a < 211, 2 ≤ a → wlI oF a = exI a := by decide +kernel
set_option maxRecDepth 100000 in
theorem aF : oF.all (fun o => Nat.ble 2 o.2.1) = true := by decide +kernel
theorem i_shp {σ : ZM} (h0 : zN σ = 2) : Shp (ruO oF σ) := by
  refine ⟨(opN h0 oF).trans nF, fun a a2 a3 => ?_, fun a j h => ?_⟩
  · rw [opS h0 oF okF a a2 (by rw [nF]; exact a3)]
    exact sF a a3 a2
  · have key : ∀ a j : Nat, 2 ≤ a → a < 211 → lkR oF a j = r0 a (j : Int) → zR (ruO oF σ) a (j : Int) = r0 a (j : Int) := fun a j a2 a3 e => by
      rw [opR h0 oF okF a j a2 (by rw [nF]; exact a3)]
      exact e
    have jn : 0 ≤ j := by
      rcases h with h | h | h | h | h | h | h | h | h | h | h
      all_goals first | omega | exact Int.le_of_eq h.1.symm
    obtain ⟨n, rfl⟩ : ∃ n : Nat, j = (n : Int) := ⟨j.toNat, by omega⟩
    rcases h with ⟨e, j0, j1⟩ | ⟨e, j0, j1⟩ | ⟨e, j0, j1⟩ | ⟨e, j0, j1⟩ | ⟨e, j0, j1⟩ | ⟨e, j0, j1⟩ | ⟨e, j0, j1⟩ | ⟨e, j0, j1⟩ | ⟨e, j0, j1⟩ | ⟨e, j0, j1, _⟩ | ⟨e, h⟩
    · subst e; exact key _ _ (by omega) (by omega) (rF2 n (by omega))
    · subst e; exact key _ _ (by omega) (by omega) (rF3 n (by omega))
    · subst e; exact key _ _ (by omega) (by omega) (rF4 n (by omega))
    · subst e; exact key _ _ (by omega) (by omega) (rF5 n (by omega))
    · subst e; exact key _ _ (by omega) (by omega) (rF10 n (by omega))
    · subst e; exact key _ _ (by omega) (by omega) (rF11 n (by omega))
    · subst e; exact key _ _ (by omega) (by omega) (rF137 n (by omega))
    · subst e; exact key _ _ (by omega) (by omega) (rF146 n (by omega))
    · subst e; exact key _ _ (by omega) (by omega) (rF154 n (by omega))
    · subst e; exact key _ _ (by omega) (by omega) (rF192 n (by omega))
    · have en : n = 0 := by omega
      subst en
      have ha : 13 ≤ a ∧ a < 192 := by omega
      have hq : aBq a = true := by
        unfold aBq
        rw [Bool.or_eq_true, Bool.or_eq_true, Bool.and_eq_true, Bool.and_eq_true, Bool.and_eq_true, Bool.and_eq_true]
        rcases h with ⟨h1, h2, h3⟩ | h | h | h | h | h | h | h | h | h | h | ⟨h1, h2, h3⟩
        · exact Or.inl ⟨Nat.ble_eq.mpr h1, Nat.ble_eq.mpr h2, by rw [h3]; rfl⟩
        all_goals first | (subst h; exact Or.inr (Or.inl (by decide))) | skip
        exact Or.inr (Or.inr ⟨Nat.ble_eq.mpr h1, Nat.ble_eq.mpr h2, by rw [h3]; rfl⟩)
      have := rFa a ha.2
      unfold aBr at this
      rw [hq] at this
      exact key a 0 (by omega) (by omega) (Nat.eq_of_beq_eq_true this)
theorem i_int {σ : ZM} (h0 : zN σ = 2) {a : Nat} (j : Int) (a2 : 2 ≤ a) (a3 : a < 211) : zI (ruO oF σ) a j = lkW (exI a) j ∧ zJ (ruO oF σ) a j = 0 := by
  have := opI h0 oF okF a j a2 (by rw [nF]; exact a3)
  rw [iF a a3 a2] at this
  exact this
theorem exI_0 {a : Nat} (h : a ≠ 138 ∧ a ≠ 140 ∧ a ≠ 144 ∧ ¬ (176 ≤ a ∧ a < 192) ∧ a ≠ 152 ∧ a ≠ 192) (j : Int) : lkW (exI a) j = 0 := by
  unfold exI
  rw [if_neg h.1, if_neg h.2.1, if_neg (by omega), if_neg (by omega), if_neg (by omega)]
  rfl
def CI (σ : ZM) (S : Int → List Int) (N : List (Int × List Int)) (L : Int → LW) (R : Int → SQ) : Prop := AI σ S N ∧ CoI σ L ∧ RowsI σ R
def MM (σ : ZM) (S : Int → List Int) (N : List (Int × List Int)) (L : Int → LW) (R : Int → SQ) : Prop := MI σ S N ∧ MCo σ L ∧ MRowsI σ R
def SC (σ : ZM) (scr : Int → Int) (len : Nat) : Prop := (zS σ 1).2 = len ∧ ∀ j, zI σ 1 j = scr j
theorem lw0 : lawOK (fun _ => 0) := Or.inl ⟨rfl, rfl, rfl, rfl, rfl⟩
theorem i_CI {σ : ZM} (h0 : zN σ = 2) : CI (ruO oF σ) (fun _ => []) [] (fun _ _ => 0) (fun _ _ => 0) := by
  have hS := i_shp h0
  have z : ∀ (a : Nat) (j : Int), 2 ≤ a → a < 211 → a ≠ 138 ∧ a ≠ 140 ∧ a ≠ 144 ∧ ¬ (176 ≤ a ∧ a < 192) ∧ a ≠ 152 ∧ a ≠ 192 → zI (ruO oF σ) a j = 0 := fun a j a2 a3 h => by
    rw [(i_int h0 j a2 a3).1]
    exact exI_0 h j
  have lwv : ∀ (l : Int), 0 ≤ l → l ≤ 7 → exI (176 + 2 * l.toNat) = [(11, 2), (3, 1), (2, 0), (1, -1)] := fun l l0 l1 => by
    unfold exI
    rw [if_neg (by omega), if_neg (by omega), if_pos (Or.inr (by omega))]
  refine ⟨⟨hS, ⟨0, z 10 2 (by omega) (by omega) (by omega), by omega, by omega, z 10 3 (by omega) (by omega) (by omega), by simp, fun k e he => by simp at he⟩, fun s s0 s1 => ⟨Pt_nil, z _ 1 (by omega) (by omega) (by omega), z _ 2 (by omega) (by omega) (by omega), by simp, fun i i0 i1 => by simp at i1; omega⟩⟩, ⟨fun l l0 l1 => ⟨lw0, ?_, fun w => ?_, fun w => ?_, fun w => ?_, fun w => ?_⟩, fun l l0 l1 => ⟨?_, ?_, fun n hn => ?_⟩, ⟨?_, ?_, Or.inl ?_⟩, ?_, ?_, fun n p q hn => ?_⟩, fun x x0 x1 i hi => ?_⟩
  · rw [(i_int h0 2 (by omega) (by omega)).1, lwv l l0 l1]
    rfl
  · exact absurd (show (0 : Int) = 1 from w) (by decide)
  · exact absurd (show (0 : Int) = 2 from w) (by decide)
  · exact absurd (show (0 : Int) = 3 from w) (by decide)
  · exact absurd (show (0 : Int) = 5 from w) (by decide)
  · rw [(i_int h0 1 (by omega) (by omega)).1, lwv l l0 l1]
    decide
  · rw [(i_int h0 1 (by omega) (by omega)).1, lwv l l0 l1]
    show (-1 : Int) ≤ if (0 : Int) = 3 then 60 else 400
    decide
  · rw [(i_int h0 1 (by omega) (by omega)).1, lwv l l0 l1] at hn
    have : (n : Int) ≤ -1 := hn
    omega
  · rw [(i_int h0 2 (by omega) (by omega)).1]
    decide
  · rw [(i_int h0 2 (by omega) (by omega)).1]
    decide
  · rw [(i_int h0 2 (by omega) (by omega)).1]
    rfl
  · rw [(i_int h0 1 (by omega) (by omega)).1]
    decide
  · rw [(i_int h0 1 (by omega) (by omega)).1]
    decide
  · rw [(i_int h0 1 (by omega) (by omega)).1] at hn
    have : (n : Int) ≤ -1 := hn
    omega
  · exact (i_int h0 _ (by omega) (by omega)).2
theorem i_MM {σ : ZM} (h0 : zN σ = 2) : MM (ruO oF σ) (fun _ => []) [] (fun _ _ => 0) (fun _ _ => 0) := by
  have hS := i_shp h0
  have z : ∀ (a : Nat) (j : Int), 2 ≤ a → a < 211 → a ≠ 138 ∧ a ≠ 140 ∧ a ≠ 144 ∧ ¬ (176 ≤ a ∧ a < 192) ∧ a ≠ 152 ∧ a ≠ 192 → zI (ruO oF σ) a j = 0 := fun a j a2 a3 h => by
    rw [(i_int h0 j a2 a3).1]
    exact exI_0 h j
  refine ⟨⟨hS, ⟨?_, by simp, fun k e he => by simp at he⟩, fun _ => [], fun s s0 s1 => ⟨z 195 s (by omega) (by omega) (by omega), by simp, fun i i0 i1 => by simp at i1; omega⟩, fun _ _ _ => rfl⟩, ⟨fun l l0 l1 => ⟨lw0, fun j j0 j1 => z 193 _ (by omega) (by omega) (by omega)⟩, Or.inl ?_, Or.inl ?_, Or.inl ?_⟩, fun x x0 x1 i hi => (i_int h0 _ (by omega) (by omega)).2⟩
  · rw [(i_int h0 6 (by omega) (by omega)).1]
    rfl
  · rw [(i_int h0 9 (by omega) (by omega)).1]
    rfl
  · rw [(i_int h0 15 (by omega) (by omega)).1]
    rfl
  · rw [(i_int h0 24 (by omega) (by omega)).1]
    rfl
