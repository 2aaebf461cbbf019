/-! the reference: column -/
theorem t_mColumn_2 {Q : ZQ} {σ : ZM} {M : Int → List Int} {s j : Int} (hS : Shp σ) (m : MS σ M) (s0 : 0 ≤ s) (s1 : s ≤ 10) (hp : Pt (M s)) (j0 : 0 ≤ j) (q : Q (zi (colN (M s) j)) σ) : ∀ (k : Nat) (i : Int), 0 ≤ i → i + k = 401 → (∀ y, 0 ≤ y → y < i → j < ga (M s) y) → WP m_Mod_column 2 [zr 192, zi s, zi j, zi i] [] σ (0, 0) Q := by
  obtain ⟨o, r1, r2, a1, a2⟩ := hS.m
  obtain ⟨g1, g2, g3⟩ := m s s0 s1
  intro k
  induction k with
  | zero =>
    intro i i0 hk hb
    have e := colN_fst (l := M s) (j := j) (r := i) hp j0 ⟨i0, hb, by show ¬ j < ga (M s) i; rw [ga_out (by omega)]; omega⟩
    refine r_Mod_column_2 ?_
    rw [r2, g1]
    exact ⟨o, a1 s s0 s1, fun _ => by rw [e] at q; exact q, fun c => absurd c (by omega)⟩
  | succ k ih =>
    intro i i0 hk hb
    refine r_Mod_column_2 ?_
    rw [r2, g1]
    refine ⟨o, a1 s s0 s1, fun c => ?_, fun c => ⟨o, t_mAt hS m s0 s1 i0 ⟨fun c2 => ?_, fun c2 => ⟨by omega, ?_⟩⟩⟩⟩
    · have e := colN_fst (l := M s) (j := j) (r := i) hp j0 ⟨i0, hb, by show ¬ j < ga (M s) i; rw [ga_out c]; omega⟩
      rw [e] at q; exact q
    · have e := colN_fst (l := M s) (j := j) (r := i) hp j0 ⟨i0, hb, by show ¬ j < ga (M s) i; omega⟩
      rw [e] at q; exact q
    · exact ih (i + 1) (by omega) (by omega) (fun y y0 y1 => by
        by_cases e : y = i
        · rw [e]; exact c2
        · exact hb y y0 (by omega))
theorem t_mColumn {Q : ZQ} {σ : ZM} {M : Int → List Int} {s j : Int} (hS : Shp σ) (m : MS σ M) (s0 : 0 ≤ s) (s1 : s ≤ 10) (hp : Pt (M s)) (j0 : 0 ≤ j) (q : Q (zi (colN (M s) j)) σ) : WP m_Mod_column 0 [zr 192, zi s, zi j, zu] [] σ (0, 0) Q :=
  r_Mod_column_0 (t_mColumn_2 hS m s0 s1 hp j0 q 401 0 (by omega) (by omega) (fun y y0 y1 => by omega))
