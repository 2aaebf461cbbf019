/-! the calls on sheets, of the class -/
/-- shape, notes, sheets -/
def AI (σ : ZM) (S : Int → List Int) (N : List (Int × List Int)) : Prop := Shp σ ∧ NotesI σ N ∧ ShI σ S
abbrev acf : Nat → Prop := fun a => a = 10 ∨ (12 ≤ a ∧ a < 135) ∨ (160 ≤ a ∧ a < 176)
def actN (S : Int → List Int) (N : List (Int × List Int)) (s : Int) : List (Int × List Int) := ((s, S s) :: N).take 60
theorem isS_133 : isS 133 := by unfold isS; omega
theorem Pt_nil : Pt [] := by
  refine ⟨(fun x hx => by cases hx), by decide, fun i j h0 h1 => ?_⟩
  rw [ga_out (by show (0 : Int) ≤ j; omega), ga_out (by show (0 : Int) ≤ i; omega)]
  omega
theorem AI.moved {σ σ' : ZM} {S : Int → List Int} {N : List (Int × List Int)} (h : AI σ S N) (f : Fr (two 133) σ σ') : AI σ' S N := ⟨f.shp h.1, f.notes (fun a w w2 => by omega) h.2.1, f.shI (fun a a0 a1 w => by omega) h.2.2⟩
theorem t_put {Q : ZQ} {σ : ZM} {N : List (Int × List Int)} {S : Int → List Int} {s : Int} {l : List Int} (h : AI σ S N) (s0 : 0 ≤ s) (s1 : s ≤ 7) (hp : Pt l) (hm : Lz σ 133 l)
    (q : ∀ σ', AI σ' (upS S s l) (actN S N s) → Fr acf σ σ' → Q (zi l.sum) σ') : WP m_PP_putOn 0 [zr 2, zi s] [] σ (0, 0) Q :=
  t_putOn h.1 h.2.1 h.2.2 s0 s1 hp hm (fun σ' k1 k2 k3 => q σ' ⟨k3.shp h.1, k1, k2⟩ (k3.mono (fun a w => by omega)))
theorem t_clear {Q : ZQ} {σ : ZM} {N : List (Int × List Int)} {S : Int → List Int} {s : Int} (h : AI σ S N) (q0 : (s < 0 ∨ 7 < s) → Q (zi (-2)) σ) (q1 : 0 ≤ s → s ≤ 7 → ∀ σ', AI σ' (upS S s []) (actN S N s) → Fr acf σ σ' → Q (zi (S s).sum) σ') : WP m_PP_clear 0 [zr 2, zi s, zu] [] σ (0, 0) Q := by
  have o2 : zobj σ 2 10 := h.1.obj (by decide) (by decide) rfl
  refine r_PP_clear_0 (t_isSheet (fun s0 s1 => ⟨fun _ => ?_, fun c => absurd c (by decide)⟩) (fun c => ⟨fun c2 => absurd rfl c2, fun _ => q0 c⟩))
  have r20 : zR σ 2 0 = 3 := h.1.2.2 2 0 (by unfold rfx; omega)
  have r24 : zR σ 2 4 = 133 := h.1.2.2 2 4 (by unfold rfx; omega)
  have r3 : zR σ 3 s = 160 + 2 * s.toNat := h.1.2.2 3 s (by unfold rfx; omega)
  have a3 : zarr σ 3 103 s := h.1.arr (by decide) (by decide) rfl s0 (by omega)
  rw [r20, r3, r24]
  refine ⟨o2, Or.inl a3, (h.1.sumO (isS_sheet s0 s1)).1, o2, (h.1.sumO isS_133).1, t_Sum_empty (h.1.sumO isS_133) (fun τ k1 k2 => ⟨k2.obj o2, t_put (h.moved k2) s0 s1 Pt_nil k1 (fun υ j1 j2 => ?_)⟩)⟩
  have e := (h.2.2 s s0 s1).2.2.1
  show Q (zi (zI σ (160 + 2 * s.toNat) 2)) υ
  rw [e]
  exact q1 s0 s1 υ j1 ((k2.mono (fun a w => by omega)).tr j2)
theorem t_copy {Q : ZQ} {σ : ZM} {N : List (Int × List Int)} {S : Int → List Int} {s t : Int} (h : AI σ S N) (q0 : ((s < 0 ∨ 7 < s) ∨ (t < 0 ∨ 7 < t)) → Q (zi (-2)) σ) (q1 : 0 ≤ s → s ≤ 7 → 0 ≤ t → t ≤ 7 → ∀ σ', AI σ' (upS S t (S s)) (actN S N t) → Fr acf σ σ' → Q (zi (S s).sum) σ') : WP m_PP_copy 0 [zr 2, zi s, zi t] [] σ (0, 0) Q := by
  have o2 : zobj σ 2 10 := h.1.obj (by decide) (by decide) rfl
  refine r_PP_copy_0 (t_isSheet (fun s0 s1 => ⟨fun c => absurd c (by decide), fun _ => t_isSheet (fun t0 t1 => ⟨fun _ => ?_, fun c => absurd c (by decide)⟩) (fun c => ⟨fun c2 => absurd rfl c2, fun _ => q0 (Or.inr c)⟩)⟩) (fun c => ⟨fun _ => q0 (Or.inl c), fun c2 => absurd rfl c2⟩))
  have r20 : zR σ 2 0 = 3 := h.1.2.2 2 0 (by unfold rfx; omega)
  have r24 : zR σ 2 4 = 133 := h.1.2.2 2 4 (by unfold rfx; omega)
  have r3 : zR σ 3 s = 160 + 2 * s.toNat := h.1.2.2 3 s (by unfold rfx; omega)
  have a3 : zarr σ 3 103 s := h.1.arr (by decide) (by decide) rfl s0 (by omega)
  have hs := h.2.2 s s0 s1
  rw [r20, r3, r24]
  refine ⟨o2, o2, Or.inl a3, (h.1.sumO isS_133).1, t_Sum_take (isS_apart isS_133 (isS_sheet s0 s1) (by omega)) hs.1 (h.1.sumO isS_133) (h.1.sumO (isS_sheet s0 s1)) hs.2 (fun τ k1 k2 => ⟨k2.obj o2, t_put (h.moved k2) t0 t1 hs.1 k1 (fun υ j1 j2 => ?_)⟩)⟩
  exact q1 s0 s1 t0 t1 υ j1 ((k2.mono (fun a w => by omega)).tr j2)
