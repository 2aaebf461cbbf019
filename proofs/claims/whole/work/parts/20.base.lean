/-! the pure level: memory, frames, sums of parts as lists -/
theorem zI_wI {σ : ZM} {a b : Nat} {i j x : Int} : zI (wI σ a i x) b j = if b = a ∧ j = i then x else zI σ b j := rfl
theorem zJ_wJ {σ : ZM} {a b : Nat} {i j : Int} {x : Int64} : zJ (wJ σ a i x) b j = if b = a ∧ j = i then x else zJ σ b j := rfl
theorem zR_wR {σ : ZM} {a b : Nat} {i j : Int} {x : Nat} : zR (wR σ a i x) b j = if b = a ∧ j = i then x else zR σ b j := rfl
/-- only ints and longs of cells in P have changed -/
def Fr (P : Nat → Prop) (σ σ' : ZM) : Prop := zN σ' = zN σ ∧ (∀ a, zS σ' a = zS σ a) ∧ (∀ a j, zR σ' a j = zR σ a j) ∧ ∀ a, ¬ P a → (∀ j, zI σ' a j = zI σ a j) ∧ ∀ j, zJ σ' a j = zJ σ a j
theorem Fr.rf {P : Nat → Prop} {σ : ZM} : Fr P σ σ := ⟨rfl, fun _ => rfl, fun _ _ => rfl, fun _ _ => ⟨fun _ => rfl, fun _ => rfl⟩⟩
theorem Fr.tr {P : Nat → Prop} {σ σ1 σ2 : ZM} (h1 : Fr P σ σ1) (h2 : Fr P σ1 σ2) : Fr P σ σ2 :=
  ⟨h2.1.trans h1.1, fun a => (h2.2.1 a).trans (h1.2.1 a), fun a j => (h2.2.2.1 a j).trans (h1.2.2.1 a j), fun a ha => ⟨fun j => ((h2.2.2.2 a ha).1 j).trans ((h1.2.2.2 a ha).1 j), fun j => ((h2.2.2.2 a ha).2 j).trans ((h1.2.2.2 a ha).2 j)⟩⟩
theorem Fr.mono {P P' : Nat → Prop} {σ σ' : ZM} (h : Fr P σ σ') (hP : ∀ a, P a → P' a) : Fr P' σ σ' := ⟨h.1, h.2.1, h.2.2.1, fun a ha => h.2.2.2 a (fun q => ha (hP a q))⟩
theorem Fr.wI {P : Nat → Prop} {σ : ZM} {a : Nat} {i x : Int} (h : P a) : Fr P σ (wI σ a i x) := by
  refine ⟨rfl, fun _ => rfl, fun _ _ => rfl, fun c hc => ⟨fun j => ?_, fun _ => rfl⟩⟩
  rw [zI_wI, if_neg (fun q => hc (by rw [q.1]; exact h))]
theorem Fr.wJ {P : Nat → Prop} {σ : ZM} {a : Nat} {i : Int} {x : Int64} (h : P a) : Fr P σ (wJ σ a i x) := by
  refine ⟨rfl, fun _ => rfl, fun _ _ => rfl, fun c hc => ⟨fun _ => rfl, fun j => ?_⟩⟩
  rw [zJ_wJ, if_neg (fun q => hc (by rw [q.1]; exact h))]
theorem Fr.obj {P : Nat → Prop} {σ σ' : ZM} (h : Fr P σ σ') {a c : Nat} (ho : zobj σ a c) : zobj σ' a c := by
  unfold zobj at ho ⊢
  rw [h.1, h.2.1]
  exact ho
/-- the part at a place, 0 where there is none -/
def ga (l : List Int) (i : Int) : Int := if i < 0 then 0 else l.getD i.toNat 0
theorem ga_neg {l : List Int} {i : Int} (h : i < 0) : ga l i = 0 := if_pos h
theorem ga_out {l : List Int} {i : Int} (h : (l.length : Int) ≤ i) : ga l i = 0 := by
  unfold ga
  split
  · rfl
  · rw [List.getD_eq_getElem?_getD, List.getElem?_eq_none (by omega)]
    rfl
theorem ga_nat {l : List Int} {i : Nat} (h : i < l.length) : ga l (i : Int) = l[i] := by
  unfold ga
  rw [if_neg (by omega), Int.toNat_natCast, List.getD_eq_getElem?_getD, List.getElem?_eq_getElem h]
  rfl
theorem ga_app {l : List Int} {v i : Int} : ga (l ++ [v]) i = if i = (l.length : Int) then v else ga l i := by
  unfold ga
  by_cases h : i < 0
  · rw [if_pos h, if_pos h, if_neg (by omega)]
  · rw [if_neg h, if_neg h]
    by_cases e : i = (l.length : Int)
    · rw [if_pos e, e, Int.toNat_natCast, List.getD_eq_getElem?_getD]
      simp
    · rw [if_neg e]
      rw [List.getD_eq_getElem?_getD, List.getD_eq_getElem?_getD]
      by_cases e2 : i.toNat < l.length
      · rw [List.getElem?_append_left e2]
      · rw [List.getElem?_append_right (by omega), List.getElem?_eq_none (by simp; omega), List.getElem?_eq_none (by omega)]
/-- a made Sum: its parts' array is the cell behind it -/
def SumO (σ : ZM) (h : Nat) : Prop := zobj σ h 8 ∧ zR σ h 0 = h + 1 ∧ (2 ≤ h + 1 ∧ h + 1 < zN σ) ∧ zS σ (h + 1) = (100, 400)
theorem SumO.arr {σ : ZM} {h : Nat} (o : SumO σ h) {i : Int} (h0 : 0 ≤ i) (h1 : i < 400) : zarr σ (zR σ h 0) 100 i := by
  obtain ⟨_, o2, ⟨o3, o4⟩, o5⟩ := o
  rw [o2]
  refine ⟨o3, o4, by rw [o5], h0, by rw [o5]; exact h1⟩
theorem Fr.sumO {P : Nat → Prop} {σ σ' : ZM} (h : Fr P σ σ') {a : Nat} (o : SumO σ a) : SumO σ' a := by
  obtain ⟨o1, o2, o3, o4⟩ := o
  refine ⟨h.obj o1, by rw [h.2.2.1]; exact o2, by rw [h.1]; exact o3, by rw [h.2.1]; exact o4⟩
/-- the Sum at h has the parts l -/
def Lz (σ : ZM) (h : Nat) (l : List Int) : Prop := zI σ h 1 = (l.length : Int) ∧ zI σ h 2 = l.sum ∧ l.length ≤ 400 ∧ ∀ i : Int, 0 ≤ i → i < (l.length : Int) → zI σ (h + 1) i = ga l i
theorem Fr.lz {P : Nat → Prop} {σ σ' : ZM} (h : Fr P σ σ') {a : Nat} {l : List Int} (h1 : ¬ P a) (h2 : ¬ P (a + 1)) (hl : Lz σ a l) : Lz σ' a l := by
  obtain ⟨g1, g2, g3, g4⟩ := hl
  exact ⟨by rw [(h.2.2.2 a h1).1]; exact g1, by rw [(h.2.2.2 a h1).1]; exact g2, g3, fun i q1 q2 => by rw [(h.2.2.2 _ h2).1]; exact g4 i q1 q2⟩
abbrev two (h : Nat) : Nat → Prop := fun a => a = h ∨ a = h + 1
theorem t_Sum_at {σ : ZM} {Q : ZQ} {h : Nat} {l : List Int} {i : Int} (o : SumO σ h) (hl : Lz σ h l) (q : Q (zi (ga l i)) σ) : WP m_Sum_at 0 [zr h, zi i] [] σ (0, 0) Q := by
  obtain ⟨g1, g2, g3, g4⟩ := hl
  refine r_Sum_at_0 ⟨fun c => ?_, fun c => ⟨o.1, fun c2 => ?_, fun c2 => ⟨o.1, ?_, ?_⟩⟩⟩
  · rw [ga_neg c] at q; exact q
  · rw [ga_out (by omega)] at q; exact q
  · exact o.arr c (by omega)
  · rw [o.2.1, g4 i c (by omega)]; exact q
theorem t_Sum_empty {σ : ZM} {Q : ZQ} {h : Nat} (o : SumO σ h) (q : ∀ σ', Lz σ' h [] → Fr (two h) σ σ' → Q zu σ') : WP m_Sum_empty 0 [zr h] [] σ (0, 0) Q := by
  refine r_Sum_empty_0 ⟨o.1, o.1, q _ ?_ ((Fr.wI (Or.inl rfl)).tr (Fr.wI (Or.inl rfl)))⟩
  refine ⟨?_, ?_, Nat.zero_le _, fun i q1 q2 => ?_⟩
  · simp [zI_wI]
  · simp [zI_wI]
  · simp at q2; omega
theorem t_Sum_add {σ : ZM} {Q : ZQ} {h : Nat} {l : List Int} {v : Int} (o : SumO σ h) (hl : Lz σ h l) (hn : l.length < 400) (hr : -2147483648 ≤ l.sum + v ∧ l.sum + v ≤ 2147483647) (q : ∀ σ', Lz σ' h (l ++ [v]) → Fr (two h) σ σ' → Q zu σ') : WP m_Sum_add 0 [zr h, zi v] [] σ (0, 0) Q := by
  obtain ⟨g1, g2, g3, g4⟩ := hl
  have e0 : ∀ x : Int, zI (wI σ (zR σ h 0) (zI σ h 1) x) h 1 = zI σ h 1 := fun x => by
    rw [zI_wI, if_neg (by rw [o.2.1]; omega)]
  have e2 : ∀ x y : Int, zI (wI (wI σ (zR σ h 0) (zI σ h 1) x) h 1 y) h 2 = zI σ h 2 := fun x y => by
    rw [zI_wI, if_neg (by omega), zI_wI, if_neg (by rw [o.2.1]; omega)]
  refine r_Sum_add_0 ⟨o.1, fun c => by omega, fun c => ⟨o.1, o.1, o.arr (by omega) (by omega), o.1, ?_, o.1, o.1, ?_, o.1, ?_⟩⟩
  · rw [e0]; omega
  · rw [e2]; omega
  · refine q _ ?_ (((Fr.wI (Or.inr o.2.1)).tr (Fr.wI (Or.inl rfl))).tr (Fr.wI (Or.inl rfl)))
    refine ⟨?_, ?_, by simp; omega, fun i q1 q2 => ?_⟩
    · rw [zI_wI, if_neg (by omega), zI_wI, if_pos ⟨rfl, rfl⟩, e0, g1]
      simp
    · rw [zI_wI, if_pos ⟨rfl, rfl⟩, e2, g2]
      simp
    · rw [zI_wI, if_neg (by omega), zI_wI, if_neg (by omega), zI_wI, ga_app, g1, o.2.1]
      by_cases e : i = (l.length : Int)
      · rw [if_pos ⟨rfl, e⟩, if_pos e]
      · rw [if_neg (fun q => e q.2), if_neg e]
        exact g4 i q1 (by simp at q2; omega)
