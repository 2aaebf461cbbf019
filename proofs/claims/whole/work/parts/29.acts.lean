/-! Notes: what is newest, drop; putOn -/
theorem t_Notes_newestSheet {Q : ZQ} {σ : ZM} {N : List (Int × List Int)} {e : Int × List Int} (hS : Shp σ) (n : NotesI σ (e :: N)) (q : Q (zi e.1) σ) : WP m_Notes_newestSheet 0 [zr 10] [] σ (0, 0) Q := by
  obtain ⟨nw, g1, g2, g3, g4, g5, g6⟩ := n
  have o10 : zobj σ 10 6 := hS.obj (by decide) (by decide) rfl
  have r1 : zR σ 10 1 = 12 := hS.2.2 10 1 (by unfold rfx; omega)
  have e0 : nix nw 0 = nw := by unfold nix; omega
  have h0 := (g6 0 e rfl).1
  rw [e0] at h0
  refine r_Notes_newestSheet_0 ⟨o10, o10, ?_, ?_⟩
  · rw [r1, g1]; exact hS.arr (by decide) (by decide) rfl g2 (by omega)
  · rw [r1, g1, h0]; exact q
theorem t_Notes_newestSum {Q : ZQ} {σ : ZM} {N : List (Int × List Int)} {e : Int × List Int} (hS : Shp σ) (n : NotesI σ (e :: N)) (q : ∀ h, isS h → h < 133 → Lz σ h e.2 → Q (zr h) σ) : WP m_Notes_newestSum 0 [zr 10] [] σ (0, 0) Q := by
  obtain ⟨nw, g1, g2, g3, g4, g5, g6⟩ := n
  have o10 : zobj σ 10 6 := hS.obj (by decide) (by decide) rfl
  have r1 : zR σ 10 0 = 11 := hS.2.2 10 0 (by unfold rfx; omega)
  have r11 : zR σ 11 nw = 13 + 2 * nw.toNat := hS.2.2 11 nw (by unfold rfx; omega)
  have e0 : nix nw 0 = nw := by unfold nix; omega
  have h0 := (g6 0 e rfl).2
  rw [e0] at h0
  refine r_Notes_newestSum_0 ⟨o10, o10, Or.inl ?_, ?_⟩
  · rw [r1, g1]; exact hS.arr (by decide) (by decide) rfl g2 (by omega)
  · rw [r1, g1, r11]; exact q _ (isS_note g2 g3) (by omega) h0
theorem t_Notes_drop {Q : ZQ} {σ : ZM} {N : List (Int × List Int)} {e : Int × List Int} (hS : Shp σ) (n : NotesI σ (e :: N)) (q : ∀ σ', NotesI σ' N → Fr (fun a => a = 10) σ σ' → Q zu σ') : WP m_Notes_drop 0 [zr 10] [] σ (0, 0) Q := by
  obtain ⟨nw, g1, g2, g3, g4, g5, g6⟩ := n
  have o10 : zobj σ 10 6 := hS.obj (by decide) (by decide) rfl
  have em : Int.tmod (zI σ 10 2 + 60 - 1) 60 = (nw + 60 - 1) % 60 := by rw [g1, Int.tmod_eq_emod_of_nonneg (by omega)]
  have ed : Int.tdiv (zI σ 10 2 + 60 - 1) 60 = (nw + 60 - 1) / 60 := by rw [g1, Int.tdiv_eq_ediv_of_nonneg (by omega)]
  obtain ⟨nx, hnx⟩ : ∃ nx, nx = (nw + 60 - 1) % 60 := ⟨_, rfl⟩
  have b0 : 0 ≤ nx ∧ nx < 60 := by omega
  rw [← hnx] at em
  have hc : ((e :: N).length : Int) = N.length + 1 := by simp
  rw [hc] at g4
  have hN : N.length + 1 ≤ 60 := by simpa using g5
  have e3 : zI (wI σ 10 2 nx) 10 3 = (N.length : Int) + 1 := by rw [zI_wI, if_neg (by omega)]; exact g4
  have f : Fr (fun a => a = 10) σ (wI (wI σ 10 2 nx) 10 3 (max 0 (zI (wI σ 10 2 nx) 10 3 - 1))) := (Fr.wI (P := fun a => a = 10) (show (10 : Nat) = 10 from rfl)).tr (Fr.wI (P := fun a => a = 10) (show (10 : Nat) = 10 from rfl))
  refine r_Notes_drop_0 ?_
  rw [em, ed]
  refine ⟨o10, by rw [g1]; omega, by rw [g1]; omega, by decide, by omega, o10, o10, by rw [e3]; omega, t_max ⟨o10, q _ ?_ f⟩⟩
  refine ⟨nx, ?_, b0.1, b0.2, ?_, by omega, fun k x hx => ?_⟩
  · rw [zI_wI, if_neg (by omega), zI_wI, if_pos ⟨rfl, rfl⟩]
  · rw [zI_wI, if_pos ⟨rfl, rfl⟩, e3]; omega
  · have hk : k < N.length := (List.getElem?_eq_some_iff.mp hx).1
    obtain ⟨q1, q2⟩ := g6 (k + 1) x hx
    have ek : nix nw (k + 1) = nix nx k := by unfold nix; omega
    have hb := nix_bd (nw := nx) (k := k)
    rw [ek] at q1 q2
    exact ⟨by rw [(f.2.2.2 12 (by omega)).1]; exact q1, f.lz (by omega) (by omega) q2⟩
/-- the SUMS on the sheets -/
def ShI (σ : ZM) (S : Int → List Int) : Prop := ∀ s : Int, 0 ≤ s → s ≤ 7 → Pt (S s) ∧ Lz σ (160 + 2 * s.toNat) (S s)
def upS (S : Int → List Int) (s : Int) (l : List Int) : Int → List Int := fun t => if t = s then l else S t
theorem isS_sheet {s : Int} (h0 : 0 ≤ s) (h1 : s ≤ 7) : isS (160 + 2 * s.toNat) := by
  unfold isS
  omega
theorem Fr.shI {P : Nat → Prop} {σ σ' : ZM} (h : Fr P σ σ') (hP : ∀ a, 160 ≤ a → a < 176 → ¬ P a) {S : Int → List Int} (n : ShI σ S) : ShI σ' S := fun s s0 s1 =>
  ⟨(n s s0 s1).1, h.lz (hP _ (by omega) (by omega)) (hP _ (by omega) (by omega)) (n s s0 s1).2⟩
abbrev afr (s : Int) : Nat → Prop := fun a => nfr a ∨ two (160 + 2 * s.toNat) a
set_option maxHeartbeats 1000000 in
theorem t_putOn {Q : ZQ} {σ : ZM} {N : List (Int × List Int)} {S : Int → List Int} {s : Int} {l : List Int} (hS : Shp σ) (n : NotesI σ N) (hs : ShI σ S) (s0 : 0 ≤ s) (s1 : s ≤ 7) (hp : Pt l) (hm : Lz σ 133 l)
    (q : ∀ σ', NotesI σ' (((s, S s) :: N).take 60) → ShI σ' (upS S s l) → Fr (afr s) σ σ' → Q (zi l.sum) σ') : WP m_PP_putOn 0 [zr 2, zi s] [] σ (0, 0) Q := by
  have o2 : zobj σ 2 10 := hS.obj (by decide) (by decide) rfl
  have o10 : zobj σ 10 6 := hS.obj (by decide) (by decide) rfl
  have r20 : ∀ τ, Shp τ → zR τ 2 0 = 3 := fun τ h => h.2.2 2 0 (by unfold rfx; omega)
  have r23 : zR σ 2 3 = 10 := hS.2.2 2 3 (by unfold rfx; omega)
  have r24 : ∀ τ, Shp τ → zR τ 2 4 = 133 := fun τ h => h.2.2 2 4 (by unfold rfx; omega)
  have r3 : ∀ τ, Shp τ → zR τ 3 s = 160 + 2 * s.toNat := fun τ h => h.2.2 3 s (by unfold rfx; omega)
  have a3 : ∀ τ, Shp τ → zarr τ 3 103 s := fun τ h => h.arr (by decide) (by decide) rfl s0 (by omega)
  have hss := isS_sheet s0 s1
  refine r_PP_putOn_0 ⟨o2, o2, Or.inl (by rw [r20 σ hS]; exact a3 σ hS), by rw [r23]; exact o10, ?_⟩
  rw [r23, r20 σ hS, r3 σ hS]
  refine t_Notes_keep hS n hss (by omega) (hs s s0 s1).1 (hs s s0 s1).2 (fun τ k1 k2 => ?_)
  have hT := k2.shp hS
  refine ⟨k2.obj o2, Or.inl (by rw [r20 τ hT]; exact a3 τ hT), k2.obj o2, by rw [r20 τ hT, r3 τ hT]; exact (hT.sumO hss).1, ?_⟩
  rw [r20 τ hT, r3 τ hT, r24 τ hT]
  have h133 : isS 133 := by unfold isS; omega
  refine t_Sum_take (isS_apart hss h133 (by omega)) hp (hT.sumO hss) (hT.sumO h133) (k2.lz (by intro w; omega) (by intro w; omega) hm) (fun υ j1 j2 => ?_)
  have hU := j2.shp hT
  have fa : Fr (afr s) σ υ := (k2.mono (fun a w => Or.inl w)).tr (j2.mono (fun a w => Or.inr w))
  refine ⟨j2.obj (k2.obj o2), Or.inl (by rw [r20 υ hU]; exact a3 υ hU), by rw [r20 υ hU, r3 υ hU]; exact (hU.sumO hss).1, ?_⟩
  rw [r20 υ hU, r3 υ hU, j1.2.1]
  refine q υ (j2.notes (fun a w w2 => by omega) k1) (fun t t0 t1 => ?_) fa
  unfold upS
  by_cases e : t = s
  · rw [if_pos e, e]
    exact ⟨hp, j1⟩
  · rw [if_neg e]
    exact ⟨(hs t t0 t1).1, fa.lz (by intro w; omega) (by intro w; omega) (hs t t0 t1).2⟩
