/-! the reference: size -/
theorem t_mSize_4 {Q : ZQ} {σ : ZM} {M : Int → List Int} {s : Int} (hS : Shp σ) (m : MS σ M) (s0 : 0 ≤ s) (s1 : s ≤ 10) (hp : Pt (M s)) (q : Q (zi (M s).sum) σ) : ∀ (k : Nat) (i : Int), 0 ≤ i → i + k = ((M s).length : Int) → WP m_Mod_size 4 [zr 192, zi s, zi ((M s).take i.toNat).sum, zi i] [] σ (0, 0) Q := by
  obtain ⟨o, r1, r2, a1, a2⟩ := hS.m
  obtain ⟨g1, g2, g3⟩ := m s s0 s1
  intro k
  induction k with
  | zero =>
    intro i i0 hk
    refine r_Mod_size_4 ?_
    rw [r2, g1]
    refine ⟨o, a1 s s0 s1, fun _ => ?_, fun c => absurd c (by omega)⟩
    rw [show i.toNat = (M s).length by omega, List.take_length]
    exact q
  | succ k ih =>
    intro i i0 hk
    have hi : i < ((M s).length : Int) := by omega
    have hst := sum_take (M s) (i + 1).toNat hp.1
    rw [take_snoc i0 hi] at hst
    have e1 : ((M s).take i.toNat ++ [ga (M s) i]).sum = ((M s).take i.toNat).sum + ga (M s) i := by simp
    have h4 := hp.2.1
    have ih := ih (i + 1) (by omega) (by omega)
    rw [take_snoc i0 hi, e1] at ih
    refine r_Mod_size_4 ?_
    rw [r1, r2, g1]
    refine ⟨o, a1 s s0 s1, fun c => absurd c (by omega), fun _ => ⟨o, by omega, by omega, a2 _ (by omega) (by omega), ?_⟩⟩
    rw [g3 i i0 hi]
    exact ⟨by omega, by omega, ih⟩
theorem t_mSize {Q : ZQ} {σ : ZM} {M : Int → List Int} {s : Int} (hS : Shp σ) (m : MS σ M) (s0 : 0 ≤ s) (s1 : s ≤ 10) (hp : Pt (M s)) (q : Q (zi (M s).sum) σ) : WP m_Mod_size 0 [zr 192, zi s, zu, zu] [] σ (0, 0) Q :=
  r_Mod_size_0 (t_mSize_4 hS m s0 s1 hp q (M s).length 0 (by omega) (by omega))
