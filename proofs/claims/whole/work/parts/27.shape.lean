/-! the shape of the memory behind both constructors -/
def shA : List (Nat × Nat) := [(0, 0), (0, 0), (10, 11), (103, 8), (104, 8), (105, 4), (101, 401), (101, 401), (101, 401), (101, 401), (6, 4), (103, 60), (100, 60)]
def shB : List (Nat × Nat) := [(8, 3), (100, 400), (8, 3), (100, 400), (2, 8), (9, 3), (101, 80601), (1, 2), (100, 77531), (7, 1), (101, 21), (4, 12), (101, 401), (5, 4), (100, 401), (100, 400), (100, 400), (8, 3), (100, 400), (0, 2), (102, 812), (3, 3), (8, 3), (100, 400), (100, 31), (7, 1), (101, 21)]
def shC : List (Nat × Nat) := [(11, 27), (100, 40), (100, 4400), (100, 11), (100, 24000), (100, 60), (100, 60), (101, 160801), (101, 160801), (101, 226981), (101, 401), (100, 401), (100, 401), (100, 402), (102, 1300), (100, 31), (101, 3721), (101, 1604), (101, 401)]
def sh0 (a : Nat) : Nat × Nat := if a < 13 then shA.getD a (0, 0) else if a < 133 then (if a % 2 = 1 then (8, 3) else (100, 400)) else if a < 160 then shB.getD (a - 133) (0, 0) else if a < 176 then (if a % 2 = 0 then (8, 3) else (100, 400)) else if a < 192 then (if a % 2 = 0 then (4, 12) else (101, 401)) else shC.getD (a - 192) (0, 0)
def r0M : List Nat := [193, 194, 195, 196, 197, 198, 0, 199, 200, 0, 0, 0, 0, 0, 201, 0, 202, 203, 204, 205, 206, 0, 207, 208, 0, 209, 210]
def r0 (a : Nat) (j : Int) : Nat :=
  if a = 2 then [3, 4, 5, 10, 133, 135, 137, 146, 152, 154, 158].getD j.toNat 0
  else if a = 3 then 160 + 2 * j.toNat
  else if a = 4 then 176 + 2 * j.toNat
  else if a = 5 then 6 + j.toNat
  else if a = 10 then 11 + j.toNat
  else if a = 11 then 13 + 2 * j.toNat
  else if a = 137 then [138, 140, 142].getD j.toNat 0
  else if a = 146 then 147 + j.toNat
  else if a = 154 then [155, 157].getD j.toNat 0
  else if a = 192 then r0M.getD j.toNat 0
  else a + 1
/-- which references are fixed -/
def rfx (a : Nat) (j : Int) : Prop := (a = 2 ∧ 0 ≤ j ∧ j < 11) ∨ (a = 3 ∧ 0 ≤ j ∧ j < 8) ∨ (a = 4 ∧ 0 ≤ j ∧ j < 8) ∨ (a = 5 ∧ 0 ≤ j ∧ j < 4) ∨ (a = 10 ∧ 0 ≤ j ∧ j < 2) ∨ (a = 11 ∧ 0 ≤ j ∧ j < 60) ∨ (a = 137 ∧ 0 ≤ j ∧ j < 3) ∨ (a = 146 ∧ 0 ≤ j ∧ j < 4) ∨ (a = 154 ∧ 0 ≤ j ∧ j < 2) ∨ (a = 192 ∧ 0 ≤ j ∧ j < 27 ∧ j ≠ 6 ∧ ¬ (9 ≤ j ∧ j ≤ 13) ∧ j ≠ 15 ∧ j ≠ 21 ∧ j ≠ 24) ∨ (j = 0 ∧ ((13 ≤ a ∧ a < 133 ∧ a % 2 = 1) ∨ a = 133 ∨ a = 135 ∨ a = 138 ∨ a = 140 ∨ a = 142 ∨ a = 144 ∨ a = 150 ∨ a = 152 ∨ a = 155 ∨ a = 158 ∨ (160 ≤ a ∧ a < 192 ∧ a % 2 = 0)))
def Shp (σ : ZM) : Prop := zN σ = 211 ∧ (∀ a, 2 ≤ a → a < 211 → zS σ a = sh0 a) ∧ ∀ a j, rfx a j → zR σ a j = r0 a j
theorem Fr.shp {P : Nat → Prop} {σ σ' : ZM} (h : Fr P σ σ') (hs : Shp σ) : Shp σ' := ⟨h.1.trans hs.1, fun a a2 a3 => (h.2.1 a).trans (hs.2.1 a a2 a3), fun a j r => (h.2.2.1 a j).trans (hs.2.2 a j r)⟩
theorem Shp.obj {σ : ZM} (h : Shp σ) {a c n : Nat} (h2 : 2 ≤ a) (h3 : a < 211) (e : sh0 a = (c, n)) : zobj σ a c := ⟨h2, by rw [h.1]; exact h3, by rw [h.2.1 a h2 h3, e]⟩
theorem Shp.arr {σ : ZM} (h : Shp σ) {a c n : Nat} {i : Int} (h2 : 2 ≤ a) (h3 : a < 211) (e : sh0 a = (c, n)) (i0 : 0 ≤ i) (i1 : i < (n : Int)) : zarr σ a c i := ⟨h2, by rw [h.1]; exact h3, by rw [h.2.1 a h2 h3, e], i0, by rw [h.2.1 a h2 h3, e]; exact i1⟩
/-- the ids of Sums -/
def isS (h : Nat) : Prop := (13 ≤ h ∧ h < 133 ∧ h % 2 = 1) ∨ h = 133 ∨ h = 135 ∨ h = 150 ∨ h = 155 ∨ (160 ≤ h ∧ h < 176 ∧ h % 2 = 0)
theorem sh0_isS {h : Nat} (s : isS h) : sh0 h = (8, 3) ∧ sh0 (h + 1) = (100, 400) ∧ 2 ≤ h ∧ h + 1 < 211 := by
  rcases s with ⟨s1, s2, s3⟩ | rfl | rfl | rfl | rfl | ⟨s1, s2, s3⟩
  · refine ⟨?_, ?_, by omega, by omega⟩
    · unfold sh0
      rw [if_neg (by omega), if_pos (by omega), if_pos s3]
    · unfold sh0
      rw [if_neg (by omega), if_pos (by omega), if_neg (by omega)]
  · exact ⟨rfl, rfl, by omega, by omega⟩
  · exact ⟨rfl, rfl, by omega, by omega⟩
  · exact ⟨rfl, rfl, by omega, by omega⟩
  · exact ⟨rfl, rfl, by omega, by omega⟩
  · refine ⟨?_, ?_, by omega, by omega⟩
    · unfold sh0
      rw [if_neg (by omega), if_neg (by omega), if_neg (by omega), if_pos (by omega), if_pos s3]
    · unfold sh0
      rw [if_neg (by omega), if_neg (by omega), if_neg (by omega), if_pos (by omega), if_neg (by omega)]
theorem Shp.sumO {σ : ZM} (hs : Shp σ) {h : Nat} (s : isS h) : SumO σ h := by
  obtain ⟨e1, e2, e3, e4⟩ := sh0_isS s
  refine ⟨hs.obj e3 (by omega) e1, ?_, ⟨by omega, by rw [hs.1]; exact e4⟩, by rw [hs.2.1 _ (by omega) e4, e2]⟩
  have hr : rfx h 0 := by
    unfold rfx
    unfold isS at s
    omega
  rw [hs.2.2 h 0 hr]
  unfold r0
  unfold isS at s
  repeat rw [if_neg (by omega)]
/-- Sums are apart from each other -/
theorem isS_apart {h o : Nat} (s : isS h) (t : isS o) (e : h ≠ o) : h ≠ o ∧ h ≠ o + 1 ∧ h + 1 ≠ o := by
  unfold isS at s t
  omega
