/-! part, of the class -/
theorem Pt_snoc {l : List Int} {v : Int} (hp : Pt l) (h1 : 1 ≤ v) (hv : (l.length : Int) = 0 ∨ v ≤ ga l ((l.length : Int) - 1)) (hs : l.sum + v ≤ 400) : Pt (l ++ [v]) := by
  refine ⟨fun x hx => ?_, by simp; omega, fun i j i0 ij => ?_⟩
  · rcases List.mem_append.mp hx with e | e
    · exact hp.1 x e
    · rw [List.mem_singleton.mp e]; exact h1
  · rw [ga_app, ga_app]
    have hr := hp.rng i
    by_cases e1 : j = (l.length : Int)
    · rw [if_pos e1]
      by_cases e2 : i = (l.length : Int)
      · rw [if_pos e2]; omega
      · rw [if_neg e2]
        rcases hv with e | e
        · omega
        · have := hp.2.2 i ((l.length : Int) - 1) i0 (by omega)
          omega
    · rw [if_neg e1]
      by_cases e2 : i = (l.length : Int)
      · rw [if_pos e2, ga_out (by omega)]; omega
      · rw [if_neg e2]
        exact hp.2.2 i j i0 ij
theorem t_part {Q : ZQ} {σ : ZM} {N : List (Int × List Int)} {S : Int → List Int} {s v : Int} (h : AI σ S N) (hv : -2147483648 ≤ v ∧ v ≤ 2147483647)
    (q0 : (s < 0 ∨ 7 < s ∨ v < 1 ∨ ((S s).length ≠ 0 ∧ ga (S s) (((S s).length : Int) - 1) < v)) → Q (zi (-2)) σ)
    (q4 : 0 ≤ s → s ≤ 7 → 1 ≤ v → ((S s).length = 0 ∨ v ≤ ga (S s) (((S s).length : Int) - 1)) → 400 - (S s).sum < v → Q (zi (-4)) σ)
    (q1 : 0 ≤ s → s ≤ 7 → 1 ≤ v → ((S s).length = 0 ∨ v ≤ ga (S s) (((S s).length : Int) - 1)) → v ≤ 400 - (S s).sum → ∀ σ', AI σ' (upS S s (S s ++ [v])) (actN S N s) → Fr acf σ σ' → Q (zi (((S s).length : Int) + 1)) σ') : WP m_PP_part 0 [zr 2, zi s, zi v, zu] [] σ (0, 0) Q := by
  have o2 : zobj σ 2 10 := h.1.obj (by decide) (by decide) rfl
  refine r_PP_part_0 (t_isSheet (fun s0 s1 => ⟨fun c => absurd c (by decide), fun _ => ⟨fun v1 => ?_, fun v1 => q0 (by omega)⟩⟩) (fun c => ⟨fun _ => q0 (by omega), fun c2 => absurd rfl c2⟩))
  have r20 : zR σ 2 0 = 3 := h.1.2.2 2 0 (by unfold rfx; omega)
  have r24 : ∀ τ, Shp τ → zR τ 2 4 = 133 := fun τ w => w.2.2 2 4 (by unfold rfx; omega)
  have r3 : zR σ 3 s = 160 + 2 * s.toNat := h.1.2.2 3 s (by unfold rfx; omega)
  have a3 : zarr σ 3 103 s := h.1.arr (by decide) (by decide) rfl s0 (by omega)
  have hs := h.2.2 s s0 s1
  have os := h.1.sumO (isS_sheet s0 s1)
  have hlen := hs.1.len
  have h4 := hs.1.2.1
  have fin : ((S s).length = 0 ∨ v ≤ ga (S s) (((S s).length : Int) - 1)) → v ≤ 400 - (S s).sum → (zobj σ 2 10 ∧ (zobj σ (zR σ 2 4) 8 ∧ WP m_Sum_take 0 [zr (zR σ 2 4), zr (160 + 2 * s.toNat)] [] σ (0, 0) (fun r4 σ5 => (zobj σ5 2 10 ∧ (zobj σ5 (zR σ5 2 4) 8 ∧ WP m_Sum_add 0 [zr (zR σ5 2 4), zi v] [] σ5 (0, 0) (fun r7 σ8 => (zobj σ8 2 10 ∧ WP m_PP_putOn 0 [zr 2, zi s] [] σ8 (0, 0) (fun r10 σ11 => zrI r10 (fun y12 => (zobj σ11 (160 + 2 * s.toNat) 8 ∧ Q (zi (zI σ11 (160 + 2 * s.toNat) 1)) σ11)))))))))) := by
    intro c1 c2
    rw [r24 σ h.1]
    refine ⟨o2, (h.1.sumO isS_133).1, t_Sum_take (isS_apart isS_133 (isS_sheet s0 s1) (by omega)) hs.1 (h.1.sumO isS_133) os hs.2 (fun τ k1 k2 => ?_)⟩
    have hT := k2.shp h.1
    rw [r24 τ hT]
    refine ⟨k2.obj o2, (hT.sumO isS_133).1, t_Sum_add (hT.sumO isS_133) k1 (by omega) (by omega) (fun υ j1 j2 => ?_)⟩
    have f2 : Fr (two 133) σ υ := k2.tr j2
    refine ⟨f2.obj o2, t_put (h.moved f2) s0 s1 (Pt_snoc hs.1 v1 (by omega) (by omega)) j1 (fun ω i1 i2 => ?_)⟩
    have hw := (i1.2.2 s s0 s1).2
    have e : upS S s (S s ++ [v]) s = S s ++ [v] := if_pos rfl
    rw [e] at hw
    refine ⟨(i1.1.sumO (isS_sheet s0 s1)).1, ?_⟩
    rw [hw.1]
    have e2 : ((S s ++ [v]).length : Int) = (S s).length + 1 := by simp
    rw [e2]
    exact q1 s0 s1 v1 c1 c2 ω i1 ((f2.mono (fun a w => by omega)).tr i2)
  rw [r20, r3]
  refine ⟨o2, Or.inl a3, os.1, fun c => ⟨os.1, by rw [hs.2.2.1]; omega, fun c2 => ?_, fun c2 => ?_⟩, fun c => ⟨os.1, by rw [hs.2.1]; omega, os.1, ?_⟩⟩
  · rw [hs.2.1] at c; rw [hs.2.2.1] at c2; exact fin (Or.inl (by omega)) c2
  · rw [hs.2.1] at c; rw [hs.2.2.1] at c2; exact q4 s0 s1 v1 (Or.inl (by omega)) c2
  · rw [hs.2.1] at c ⊢
    refine t_Sum_at os hs.2 ⟨fun c2 => ⟨os.1, by rw [hs.2.2.1]; omega, fun c3 => ?_, fun c3 => ?_⟩, fun c2 => q0 (by omega)⟩
    · rw [hs.2.2.1] at c3; exact fin (Or.inr c2) c3
    · rw [hs.2.2.1] at c3; exact q4 s0 s1 v1 (Or.inr c2) c3
