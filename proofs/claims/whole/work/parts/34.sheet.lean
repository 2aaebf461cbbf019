/-! sheet, of the class -/
/-- what sheet tells of a SUM -/
def shA' (l : List Int) (w r : Int) : Prop := (w = 0 → r = l.sum) ∧ (w = 1 → r = (l.length : Int)) ∧ (w = 2 → Fst (fun i => i < ga l i) r) ∧ (w = 3 → r = ga l 0 - (l.length : Int) + 1000) ∧ (w = 4 → r = crkN l + 1000) ∧ ((w = 5 ∨ w = 7) → r = sm (fun i => if ga l (i + 1) < ga l i then 1 else 0) l.length) ∧ (w = 6 → r = sm (fun i => ga l i % 2) l.length) ∧ ((w < 0 ∨ 7 < w) → r = if 100 ≤ w ∧ w - 100 < (l.length : Int) then ga l (w - 100) else -2)
theorem crkN_bd {l : List Int} (hp : Pt l) : -400 ≤ crkN l ∧ crkN l ≤ 400 := by
  have h1 := onesN_bd l l.length
  have h2 := colN_bd (l := l) (j := onesN l)
  have h3 := hp.rng 0
  have h4 := hp.len
  have h5 : 0 ≤ onesN l ∧ onesN l ≤ (l.length : Int) := h1
  unfold crkN
  split <;> omega
theorem t_sheet {Q : ZQ} {σ : ZM} {N : List (Int × List Int)} {S : Int → List Int} {s w : Int} (h : AI σ S N) (hw : -2147483648 ≤ w ∧ w ≤ 2147483647)
    (q0 : (s < 0 ∨ 7 < s) → Q (zi (-2)) σ) (q1 : 0 ≤ s → s ≤ 7 → ∀ r, shA' (S s) w r → Q (zi r) σ) : WP m_PP_sheet 0 [zr 2, zi s, zi w, zu] [] σ (0, 0) Q := by
  have o2 : zobj σ 2 10 := h.1.obj (by decide) (by decide) rfl
  refine r_PP_sheet_0 (t_isSheet (fun s0 s1 => ⟨fun _ => ?_, fun c => absurd c (by decide)⟩) (fun c => ⟨fun c2 => absurd rfl c2, fun _ => q0 c⟩))
  have r20 : zR σ 2 0 = 3 := h.1.2.2 2 0 (by unfold rfx; omega)
  have r3 : zR σ 3 s = 160 + 2 * s.toNat := h.1.2.2 3 s (by unfold rfx; omega)
  have a3 : zarr σ 3 103 s := h.1.arr (by decide) (by decide) rfl s0 (by omega)
  obtain ⟨hp, hl⟩ := h.2.2 s s0 s1
  have os := h.1.sumO (isS_sheet s0 s1)
  have hr := hp.rng 0
  have hlen := hp.len
  have hck := crkN_bd hp
  rw [r20, r3, hl.1, hl.2.1]
  have q := q1 s0 s1
  refine ⟨o2, Or.inl a3, fun c => ⟨fun c2 => q _ ?_, fun c2 => ⟨by omega, os.1, fun c3 => q _ ?_, fun c3 => ⟨by omega, os.1, t_Sum_at os hl (q _ ?_)⟩⟩⟩, fun c => ⟨os.1, q _ ?_⟩, fun c => ⟨os.1, q _ ?_⟩, fun c => ⟨os.1, t_Sum_side os hl (fun r hf => q _ ?_)⟩, fun c => ⟨os.1, t_Sum_firstLessSize os hp hl ⟨by omega, q _ ?_⟩⟩, fun c => ⟨os.1, t_Sum_crank os hp hl ⟨by omega, q _ ?_⟩⟩, fun c => ⟨os.1, t_Sum_unlike os hl (q _ ?_)⟩, fun c => ⟨os.1, t_Sum_odd os hp hl (q _ ?_)⟩, fun c => ⟨os.1, t_Sum_corners os hl (q _ ?_)⟩, trivial⟩
  · refine ⟨fun e => by omega, fun e => by omega, fun e => by omega, fun e => by omega, fun e => by omega, fun e => by omega, fun e => by omega, fun e => by rw [if_neg (by omega)]⟩
  · refine ⟨fun e => by omega, fun e => by omega, fun e => by omega, fun e => by omega, fun e => by omega, fun e => by omega, fun e => by omega, fun e => by rw [if_neg (by omega)]⟩
  · refine ⟨fun e => by omega, fun e => by omega, fun e => by omega, fun e => by omega, fun e => by omega, fun e => by omega, fun e => by omega, fun e => by rw [if_pos (by omega)]⟩
  · exact ⟨fun e => rfl, fun e => by omega, fun e => by omega, fun e => by omega, fun e => by omega, fun e => by omega, fun e => by omega, fun e => by omega⟩
  · exact ⟨fun e => by omega, fun e => rfl, fun e => by omega, fun e => by omega, fun e => by omega, fun e => by omega, fun e => by omega, fun e => by omega⟩
  · exact ⟨fun e => by omega, fun e => by omega, fun e => hf, fun e => by omega, fun e => by omega, fun e => by omega, fun e => by omega, fun e => by omega⟩
  · exact ⟨fun e => by omega, fun e => by omega, fun e => by omega, fun e => rfl, fun e => by omega, fun e => by omega, fun e => by omega, fun e => by omega⟩
  · exact ⟨fun e => by omega, fun e => by omega, fun e => by omega, fun e => by omega, fun e => rfl, fun e => by omega, fun e => by omega, fun e => by omega⟩
  · exact ⟨fun e => by omega, fun e => by omega, fun e => by omega, fun e => by omega, fun e => by omega, fun e => rfl, fun e => by omega, fun e => by omega⟩
  · exact ⟨fun e => by omega, fun e => by omega, fun e => by omega, fun e => by omega, fun e => by omega, fun e => by omega, fun e => rfl, fun e => by omega⟩
  · exact ⟨fun e => by omega, fun e => by omega, fun e => by omega, fun e => by omega, fun e => by omega, fun e => rfl, fun e => by omega, fun e => by omega⟩
