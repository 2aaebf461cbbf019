/-! the reference: push -/
theorem t_mPush {Q : ZQ} {σ : ZM} {M : Int → List Int} {s v : Int} (hS : Shp σ) (m : MS σ M) (s0 : 0 ≤ s) (s1 : s ≤ 10) (hn : (M s).length < 400) (q : ∀ σ', MS σ' (upS M s (M s ++ [v])) → Fr mfr σ σ' → Q zu σ') : WP m_Mod_push 0 [zr 192, zi s, zi v] [] σ (0, 0) Q := by
  obtain ⟨o, r1, r2, a1, a2⟩ := hS.m
  obtain ⟨g1, g2, g3⟩ := m s s0 s1
  refine r_Mod_push_0 ?_
  have r2' : ∀ x y : Int, zR (wI σ 194 x y) 192 2 = 195 := fun _ _ => r2
  have e1 : ∀ x y : Int, zI (wI σ 194 x y) 195 s = ((M s).length : Int) := fun x y => by rw [zI_wI, if_neg (by omega)]; exact g1
  simp only [r1, r2, g1, r2', e1]
  refine ⟨o, by omega, o, a1 s s0 s1, by omega, a2 _ (by omega) (by omega), o, a1 s s0 s1, by omega, a1 s s0 s1, q _ (fun t t0 t1 => ?_) ((Fr.wI (Or.inl rfl)).tr (Fr.wI (Or.inr rfl)))⟩
  obtain ⟨k1, k2, k3⟩ := m t t0 t1
  unfold upS
  by_cases e : t = s
  · subst e
    rw [if_pos rfl]
    refine ⟨?_, by simp; omega, fun i i0 i1 => ?_⟩
    · rw [zI_wI, if_pos ⟨rfl, rfl⟩]; simp
    · rw [zI_wI, if_neg (by omega), zI_wI, ga_app]
      by_cases e2 : i = ((M t).length : Int)
      · rw [if_pos ⟨rfl, by omega⟩, if_pos e2]
      · rw [if_neg (by omega), if_neg e2]
        exact k3 i i0 (by simp at i1; omega)
  · rw [if_neg e]
    refine ⟨?_, k2, fun i i0 i1 => ?_⟩
    · rw [zI_wI, if_neg (fun w => e w.2), zI_wI, if_neg (by omega)]; exact k1
    · rw [zI_wI, if_neg (by omega), zI_wI, if_neg (by omega)]; exact k3 i i0 i1
