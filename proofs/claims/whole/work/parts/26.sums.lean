/-! Sum: shrink, grow -/
theorem ga_set {l : List Int} {n : Nat} {v j : Int} (hn : n < l.length) : ga (l.set n v) j = if j = (n : Int) then v else ga l j := by
  unfold ga
  by_cases h : j < 0
  · rw [if_pos h, if_pos h, if_neg (by omega)]
  · rw [if_neg h, if_neg h, List.getD_eq_getElem?_getD, List.getD_eq_getElem?_getD, List.getElem?_set]
    by_cases e : j = (n : Int)
    · subst e
      rw [if_pos rfl, Int.toNat_natCast, if_pos rfl, if_pos hn]
      rfl
    · rw [if_neg e, if_neg (by omega)]
theorem sum_set : ∀ (l : List Int) (n : Nat) (v : Int), n < l.length → (l.set n v).sum = l.sum - ga l n + v
  | [], n, v, h => by simp at h
  | a :: l, 0, v, h => by
    have : ga (a :: l) ((0 : Nat) : Int) = a := ga_nat (l := a :: l) (i := 0) h
    rw [this]
    simp only [List.set_cons_zero, List.sum_cons]
    omega
  | a :: l, n + 1, v, h => by
    have h' : n < l.length := by simpa using h
    have e1 : ga (a :: l) ((n + 1 : Nat) : Int) = ga l (n : Int) := by rw [ga_nat h, ga_nat h']; rfl
    have ih := sum_set l n v h'
    rw [e1]
    simp only [List.set_cons_succ, List.sum_cons]
    omega
theorem ga_take {l : List Int} {n : Nat} {j : Int} : ga (l.take n) j = if j < (n : Int) then ga l j else 0 := by
  unfold ga
  by_cases h : j < 0
  · rw [if_pos h, if_pos h]; split <;> rfl
  · rw [if_neg h, if_neg h, List.getD_eq_getElem?_getD, List.getD_eq_getElem?_getD]
    by_cases e : j < (n : Int)
    · rw [if_pos e, List.getElem?_take_of_lt (by omega)]
    · rw [if_neg e, List.getElem?_take_eq_none (by omega)]
      rfl
/-- a corner of row i is taken away -/
def shr (l : List Int) (i : Int) : List Int := if ga l i = 1 then l.take i.toNat else l.set i.toNat (ga l i - 1)
theorem sum_take_last {l : List Int} {i : Int} (h0 : 0 ≤ i) (h1 : i + 1 = (l.length : Int)) : (l.take i.toNat).sum = l.sum - ga l i := by
  have := take_snoc (l := l) (i := i) h0 (by omega)
  rw [show (i + 1).toNat = l.length by omega, List.take_length] at this
  have e : l.sum = (l.take i.toNat).sum + ga l i := by
    conv => lhs; rw [this]
    simp
  omega
theorem t_Sum_shrink {Q : ZQ} {h : Nat} {l : List Int} {σ : ZM} {i : Int} (o : SumO σ h) (hp : Pt l) (hl : Lz σ h l) (i0 : 0 ≤ i) (i1 : i < (l.length : Int)) (hc : ga l (i + 1) < ga l i) (q : ∀ σ', Lz σ' h (shr l i) → Fr (two h) σ σ' → Q zu σ') : WP m_Sum_shrink 0 [zr h, zi i] [] σ (0, 0) Q := by
  obtain ⟨g1, g2, g3, g4⟩ := id hl
  have hlen := hp.len
  have h4 := hp.2.1
  have hr := hp.rng i
  have hpos := hp.pos i0 i1
  have e1 : zI σ (zR σ h 0) i = ga l i := by rw [o.2.1]; exact g4 i i0 i1
  have oA := o.arr i0 (show i < 400 by omega)
  have e2 : ∀ x : Int, zI (wI σ (zR σ h 0) i x) h 2 = zI σ h 2 := fun x => by rw [zI_wI, if_neg (by rw [o.2.1]; omega)]
  have e3 : ∀ x y : Int, zI (wI (wI σ (zR σ h 0) i x) h 2 y) (zR σ h 0) i = x := fun x y => by
    rw [zI_wI, if_neg (by rw [o.2.1]; omega), zI_wI, if_pos ⟨rfl, rfl⟩]
  have e4 : ∀ x y : Int, zI (wI (wI σ (zR σ h 0) i x) h 2 y) h 1 = zI σ h 1 := fun x y => by
    rw [zI_wI, if_neg (by omega), zI_wI, if_neg (by rw [o.2.1]; omega)]
  have hn : i.toNat < l.length := by omega
  have hni : (i.toNat : Int) = i := by omega
  refine r_Sum_shrink_0 ⟨fun c => absurd c (by omega), fun _ => ⟨o.1, fun c => absurd c (by omega), fun _ => ⟨o.1, oA, by rw [e1]; omega, oA, o.1, by rw [e2]; omega, o.1, o.1, oA, fun c => ?_, fun c => ⟨o.1, ?_, o.1, ?_⟩⟩⟩⟩
  · have c : zI (wI (wI σ (zR σ h 0) i (zI σ (zR σ h 0) i - 1)) h 2 (zI (wI σ (zR σ h 0) i (zI σ (zR σ h 0) i - 1)) h 2 - 1)) (zR σ h 0) i ≠ 0 := c
    rw [e3, e1] at c
    refine q _ ?_ ((Fr.wI (Or.inr o.2.1)).tr (Fr.wI (Or.inl rfl)))
    unfold shr
    rw [if_neg (by omega)]
    refine ⟨?_, ?_, by rw [List.length_set]; exact g3, fun j j0 j1 => ?_⟩
    · rw [e4, List.length_set, g1]
    · rw [zI_wI, if_pos ⟨rfl, rfl⟩, e2, g2, sum_set l _ _ hn, hni]; omega
    · rw [List.length_set] at j1
      rw [zI_wI, if_neg (by omega), zI_wI, ga_set hn, hni, o.2.1]
      by_cases e : j = i
      · rw [if_pos ⟨rfl, e⟩, if_pos e, ← o.2.1, e1]
      · rw [if_neg (fun w => e w.2), if_neg e]
        exact g4 j j0 j1
  · show _ ≤ zI (wI (wI σ (zR σ h 0) i _) h 2 _) h 1 - 1 ∧ zI (wI (wI σ (zR σ h 0) i _) h 2 _) h 1 - 1 ≤ _
    rw [e4]
    omega
  · have c : zI (wI (wI σ (zR σ h 0) i (zI σ (zR σ h 0) i - 1)) h 2 (zI (wI σ (zR σ h 0) i (zI σ (zR σ h 0) i - 1)) h 2 - 1)) (zR σ h 0) i = 0 := c
    rw [e3, e1] at c
    have hlast : i + 1 = (l.length : Int) := by
      rcases Int.lt_or_le (i + 1) (l.length : Int) with w | w
      · have := hp.pos (i := i + 1) (by omega) w
        omega
      · omega
    refine q _ ?_ (((Fr.wI (Or.inr o.2.1)).tr (Fr.wI (Or.inl rfl))).tr (Fr.wI (Or.inl rfl)))
    unfold shr
    rw [if_pos (by omega)]
    have htl : (l.take i.toNat).length = i.toNat := by rw [List.length_take]; omega
    refine ⟨?_, ?_, by omega, fun j j0 j1 => ?_⟩
    · rw [zI_wI, if_pos ⟨rfl, rfl⟩, e4, htl]; omega
    · rw [zI_wI, if_neg (by omega), zI_wI, if_pos ⟨rfl, rfl⟩, e2, g2, sum_take_last i0 hlast]; omega
    · rw [zI_wI, if_neg (by omega), zI_wI, if_neg (by omega), zI_wI, if_neg (by omega), ga_take, if_pos (by omega)]
      exact g4 j j0 (by omega)
theorem t_Sum_grow {Q : ZQ} {h : Nat} {l : List Int} {σ : ZM} {i : Int} (o : SumO σ h) (hp : Pt l) (i0 : 0 ≤ i) (i1 : i < (l.length : Int)) (hc : ga l (i + 1) < ga l i) (hl : Lz σ h (shr l i)) (q : ∀ σ', Lz σ' h l → Fr (two h) σ σ' → Q zu σ') : WP m_Sum_grow 0 [zr h, zi i] [] σ (0, 0) Q := by
  have hlen := hp.len
  have h4 := hp.2.1
  have hr := hp.rng i
  have hpos := hp.pos i0 i1
  have hn : i.toNat < l.length := by omega
  have hni : (i.toNat : Int) = i := by omega
  by_cases e : ga l i = 1
  · have hlast : i + 1 = (l.length : Int) := by
      rcases Int.lt_or_le (i + 1) (l.length : Int) with w | w
      · have := hp.pos (i := i + 1) (by omega) w
        omega
      · omega
    unfold shr at hl
    rw [if_pos e] at hl
    have htl : (l.take i.toNat).length = i.toNat := by rw [List.length_take]; omega
    have hs := sum_take_last i0 hlast
    have hsn := take_snoc (l := l) (i := i) i0 i1
    rw [show (i + 1).toNat = l.length by omega, List.take_length, e] at hsn
    refine r_Sum_grow_0 ⟨o.1, fun c => absurd (show i = zI σ h 1 by rw [hl.1, htl]; omega) c, fun c => ⟨o.1, t_Sum_add o hl (by omega) (by omega) (fun σ' g1 g2 => q σ' ?_ g2)⟩⟩
    rw [← hsn] at g1
    exact g1
  · unfold shr at hl
    rw [if_neg e] at hl
    obtain ⟨g1, g2, g3, g4⟩ := id hl
    rw [List.length_set] at g1 g3 g4
    rw [sum_set l _ _ hn, hni] at g2
    have oA := o.arr i0 (show i < 400 by omega)
    have e1 : zI σ (zR σ h 0) i = ga l i - 1 := by rw [o.2.1, g4 i i0 i1, ga_set hn, hni, if_pos rfl]
    have e2 : ∀ x : Int, zI (wI σ (zR σ h 0) i x) h 2 = zI σ h 2 := fun x => by rw [zI_wI, if_neg (by rw [o.2.1]; omega)]
    refine r_Sum_grow_0 ⟨o.1, fun c => ⟨fun c => absurd c (by omega), fun _ => ⟨o.1, fun c => absurd c (by omega), fun _ => ⟨o.1, oA, by rw [e1]; omega, oA, o.1, by rw [e2]; omega, o.1, q _ ?_ ((Fr.wI (Or.inr o.2.1)).tr (Fr.wI (Or.inl rfl)))⟩⟩⟩, fun c => absurd c (by omega)⟩
    refine ⟨?_, ?_, by omega, fun j j0 j1 => ?_⟩
    · rw [zI_wI, if_neg (by omega), zI_wI, if_neg (by rw [o.2.1]; omega), g1]
    · rw [zI_wI, if_pos ⟨rfl, rfl⟩, e2, g2]; omega
    · rw [zI_wI, if_neg (by omega), zI_wI, o.2.1]
      by_cases e5 : j = i
      · rw [if_pos ⟨rfl, e5⟩, e5, ← o.2.1, e1]; omega
      · rw [if_neg (fun w => e5 w.2), g4 j j0 j1, ga_set hn, hni, if_neg e5]
