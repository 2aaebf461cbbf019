/-! hook, of the class -/
theorem t_hook {Q : ZQ} {σ : ZM} {N : List (Int × List Int)} {S : Int → List Int} {s i j : Int} (h : AI σ S N)
    (q0 : (s < 0 ∨ 7 < s ∨ i < 0 ∨ j < 0 ∨ ga (S s) i ≤ j) → Q (zi (-2)) σ) (q1 : 0 ≤ s → s ≤ 7 → 0 ≤ i → 0 ≤ j → j < ga (S s) i → Q (zi (hkN (S s) i j)) σ) : WP m_PP_hook 0 [zr 2, zi s, zi i, zi j] [] σ (0, 0) Q := by
  have o2 : zobj σ 2 10 := h.1.obj (by decide) (by decide) rfl
  refine r_PP_hook_0 (t_isSheet (fun s0 s1 => ⟨fun c => absurd c (by decide), fun _ => ⟨fun c => q0 (by omega), fun i0 => ⟨fun c => q0 (by omega), fun j0 => ?_⟩⟩⟩) (fun c => ⟨fun _ => q0 (by omega), fun c2 => absurd rfl c2⟩))
  have r20 : zR σ 2 0 = 3 := h.1.2.2 2 0 (by unfold rfx; omega)
  have r3 : zR σ 3 s = 160 + 2 * s.toNat := h.1.2.2 3 s (by unfold rfx; omega)
  have a3 : zarr σ 3 103 s := h.1.arr (by decide) (by decide) rfl s0 (by omega)
  have hs := h.2.2 s s0 s1
  have os := h.1.sumO (isS_sheet s0 s1)
  rw [r20, r3]
  refine ⟨o2, Or.inl a3, os.1, t_Sum_at os hs.2 ⟨fun c => ?_, fun c => q0 (by omega)⟩⟩
  have hr := hs.1.rng i
  have hlen := hs.1.len
  have hi : i < ((S s).length : Int) := by
    rcases Int.lt_or_le i ((S s).length : Int) with w | w
    · exact w
    · rw [ga_out w] at c; omega
  rw [r20, r3]
  exact ⟨o2, Or.inl a3, os.1, t_Sum_hookAt os hs.1 hs.2 i0 (by omega) j0 (by omega) (q1 s0 s1 i0 j0 c)⟩
