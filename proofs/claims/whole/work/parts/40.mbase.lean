/-! the reference: its sheets (11 of them share two arrays) -/
def MS (σ : ZM) (M : Int → List Int) : Prop := ∀ s : Int, 0 ≤ s → s ≤ 10 → zI σ 195 s = ((M s).length : Int) ∧ (M s).length ≤ 400 ∧ ∀ i : Int, 0 ≤ i → i < ((M s).length : Int) → zI σ 194 (400 * s + i) = ga (M s) i
abbrev mfr : Nat → Prop := fun a => a = 194 ∨ a = 195
theorem Fr.ms {P : Nat → Prop} {σ σ' : ZM} (h : Fr P σ σ') (h1 : ¬ P 194) (h2 : ¬ P 195) {M : Int → List Int} (m : MS σ M) : MS σ' M := fun s s0 s1 => by
  obtain ⟨g1, g2, g3⟩ := m s s0 s1
  exact ⟨by rw [(h.2.2.2 _ h2).1]; exact g1, g2, fun i i0 i1 => by rw [(h.2.2.2 _ h1).1]; exact g3 i i0 i1⟩
theorem Shp.m {σ : ZM} (hS : Shp σ) : zobj σ 192 11 ∧ zR σ 192 1 = 194 ∧ zR σ 192 2 = 195 ∧ (∀ s : Int, 0 ≤ s → s ≤ 10 → zarr σ 195 100 s) ∧ (∀ i : Int, 0 ≤ i → i < 4400 → zarr σ 194 100 i) :=
  ⟨hS.obj (by decide) (by decide) rfl, hS.2.2 192 1 (by unfold rfx; omega), hS.2.2 192 2 (by unfold rfx; omega), fun s s0 s1 => hS.arr (by decide) (by decide) rfl s0 (by omega), fun i i0 i1 => hS.arr (by decide) (by decide) rfl i0 i1⟩
theorem t_mAt {Q : ZQ} {σ : ZM} {M : Int → List Int} {s i : Int} (hS : Shp σ) (m : MS σ M) (s0 : 0 ≤ s) (s1 : s ≤ 10) (i0 : 0 ≤ i) (q : Q (zi (ga (M s) i)) σ) : WP m_Mod_at 0 [zr 192, zi s, zi i] [] σ (0, 0) Q := by
  obtain ⟨o, r1, r2, a1, a2⟩ := hS.m
  obtain ⟨g1, g2, g3⟩ := m s s0 s1
  refine r_Mod_at_0 ?_
  rw [r1, r2, g1]
  refine ⟨o, a1 s s0 s1, fun c => ?_, fun c => ⟨o, by omega, by omega, a2 _ (by omega) (by omega), ?_⟩⟩
  · rw [ga_out c] at q; exact q
  · rw [g3 i i0 c]; exact q
theorem t_mEmpty {Q : ZQ} {σ : ZM} {M : Int → List Int} {s : Int} (hS : Shp σ) (m : MS σ M) (s0 : 0 ≤ s) (s1 : s ≤ 10) (q : ∀ σ', MS σ' (upS M s []) → Fr mfr σ σ' → Q zu σ') : WP m_Mod_empty 0 [zr 192, zi s] [] σ (0, 0) Q := by
  obtain ⟨o, r1, r2, a1, a2⟩ := hS.m
  refine r_Mod_empty_0 ?_
  rw [r2]
  refine ⟨o, a1 s s0 s1, q _ (fun t t0 t1 => ?_) (Fr.wI (Or.inr rfl))⟩
  obtain ⟨g1, g2, g3⟩ := m t t0 t1
  unfold upS
  by_cases e : t = s
  · rw [if_pos e]
    refine ⟨?_, by decide, fun i i0 i1 => ?_⟩
    · rw [zI_wI, if_pos ⟨rfl, e⟩]; rfl
    · have : i < (0 : Int) := i1
      omega
  · rw [if_neg e]
    refine ⟨?_, g2, fun i i0 i1 => ?_⟩
    · rw [zI_wI, if_neg (fun w => e w.2)]; exact g1
    · rw [zI_wI, if_neg (by omega)]; exact g3 i i0 i1
