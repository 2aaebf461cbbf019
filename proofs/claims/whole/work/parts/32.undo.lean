/-! undo, hook, of the class -/
theorem t_undo {Q : ZQ} {σ : ZM} {N : List (Int × List Int)} {S : Int → List Int} (h : AI σ S N) (hN : ∀ e ∈ N, 0 ≤ e.1 ∧ e.1 ≤ 7 ∧ Pt e.2) (q0 : N = [] → Q (zi (-1)) σ)
    (q1 : ∀ e N', N = e :: N' → ∀ σ', AI σ' (upS S e.1 e.2) N' → Fr acf σ σ' → Q (zi (N'.length : Int)) σ') : WP m_PP_undo 0 [zr 2, zu] [] σ (0, 0) Q := by
  have o2 : zobj σ 2 10 := h.1.obj (by decide) (by decide) rfl
  have o10 : zobj σ 10 6 := h.1.obj (by decide) (by decide) rfl
  have r23 : ∀ τ, Shp τ → zR τ 2 3 = 10 := fun τ w => w.2.2 2 3 (by unfold rfx; omega)
  have hh : zI σ 10 3 = (N.length : Int) := by
    obtain ⟨nw, g1, g2, g3, g4, g5, g6⟩ := h.2.1
    exact g4
  refine r_PP_undo_0 ?_
  rw [r23 σ h.1]
  rcases N with _ | ⟨e, N'⟩
  · exact ⟨o2, o10, fun c => absurd hh c, fun _ => q0 rfl⟩
  · obtain ⟨e0, e1, ep⟩ := hN e List.mem_cons_self
    refine ⟨o2, o10, fun _ => ⟨o2, o10, t_Notes_newestSheet h.1 h.2.1 (t_isSheet (fun _ _ => ⟨fun c => absurd c (by decide), fun _ => ?_⟩) (fun c => by omega))⟩, fun c => by rw [hh] at c; simp at c; omega⟩
    have r20 : zR σ 2 0 = 3 := h.1.2.2 2 0 (by unfold rfx; omega)
    have r3 : zR σ 3 e.1 = 160 + 2 * e.1.toNat := h.1.2.2 3 e.1 (by unfold rfx; omega)
    have a3 : zarr σ 3 103 e.1 := h.1.arr (by decide) (by decide) rfl e0 (by omega)
    have os := h.1.sumO (isS_sheet e0 e1)
    rw [r20, r3, r23 σ h.1]
    refine ⟨o2, Or.inl a3, o2, o10, t_Notes_newestSum h.1 h.2.1 (fun w w1 w2 w3 => ⟨os.1, t_Sum_take (isS_apart (isS_sheet e0 e1) w1 (by omega)) ep os (h.1.sumO w1) w3 (fun τ k1 k2 => ?_)⟩)⟩
    have hT := k2.shp h.1
    have nT : NotesI τ (e :: N') := k2.notes (fun a x y => by omega) h.2.1
    rw [r23 τ hT]
    refine ⟨k2.obj o2, k2.obj o10, t_Notes_drop hT nT (fun υ j1 j2 => ?_)⟩
    have hU := j2.shp hT
    rw [r23 υ hU]
    have hc : zI υ 10 3 = (N'.length : Int) := by
      obtain ⟨nw, g1, g2, g3, g4, g5, g6⟩ := j1
      exact g4
    rw [hc]
    have f : Fr acf σ υ := (k2.mono (fun a x => by omega)).tr (j2.mono (fun a x => by omega))
    refine ⟨j2.obj (k2.obj o2), j2.obj (k2.obj o10), q1 e N' rfl υ ⟨hU, j1, fun t t0 t1 => ?_⟩ f⟩
    unfold upS
    by_cases et : t = e.1
    · rw [if_pos et, et]
      exact ⟨ep, j2.lz (by omega) (by omega) k1⟩
    · rw [if_neg et]
      exact ⟨(h.2.2 t t0 t1).1, j2.lz (by omega) (by omega) (k2.lz (by omega) (by omega) (h.2.2 t t0 t1).2)⟩
