/-! Notes: a ring of the latest 60 -/
def nix (nw : Int) (k : Nat) : Int := (nw + 60 - (k : Int)) % 60
def NotesI (σ : ZM) (N : List (Int × List Int)) : Prop := ∃ nw : Int, zI σ 10 2 = nw ∧ 0 ≤ nw ∧ nw < 60 ∧ zI σ 10 3 = (N.length : Int) ∧ N.length ≤ 60 ∧ ∀ (k : Nat) (e : Int × List Int), N[k]? = some e → zI σ 12 (nix nw k) = e.1 ∧ Lz σ (13 + 2 * (nix nw k).toNat) e.2
abbrev nfr : Nat → Prop := fun a => a = 10 ∨ (12 ≤ a ∧ a < 133)
theorem nix_bd {nw : Int} {k : Nat} : 0 ≤ nix nw k ∧ nix nw k < 60 := by
  unfold nix
  omega
theorem nix_isS {nw : Int} {k : Nat} : isS (13 + 2 * (nix nw k).toNat) := by
  have := nix_bd (nw := nw) (k := k)
  left
  omega
theorem isS_note {i : Int} (h0 : 0 ≤ i) (h1 : i < 60) : isS (13 + 2 * i.toNat) := by
  left
  omega
theorem Fr.notes {P : Nat → Prop} {σ σ' : ZM} (h : Fr P σ σ') (hP : ∀ a, nfr a → ¬ P a) {N : List (Int × List Int)} (n : NotesI σ N) : NotesI σ' N := by
  obtain ⟨nw, g1, g2, g3, g4, g5, g6⟩ := n
  have h10 := (h.2.2.2 10 (hP 10 (Or.inl rfl))).1
  refine ⟨nw, by rw [h10]; exact g1, g2, g3, by rw [h10]; exact g4, g5, fun k e he => ?_⟩
  have hb := nix_bd (nw := nw) (k := k)
  obtain ⟨q1, q2⟩ := g6 k e he
  exact ⟨by rw [(h.2.2.2 12 (hP 12 (Or.inr ⟨by omega, by omega⟩))).1]; exact q1, h.lz (hP _ (Or.inr ⟨by omega, by omega⟩)) (hP _ (Or.inr ⟨by omega, by omega⟩)) q2⟩
set_option maxHeartbeats 1000000 in
theorem t_Notes_keep {Q : ZQ} {σ : ZM} {N : List (Int × List Int)} {s : Int} {h : Nat} {l : List Int} (hS : Shp σ) (n : NotesI σ N) (hh : isS h) (h133 : 133 ≤ h) (hp : Pt l) (hl : Lz σ h l)
    (q : ∀ σ', NotesI σ' (((s, l) :: N).take 60) → Fr nfr σ σ' → Q zu σ') : WP m_Notes_keep 0 [zr 10, zi s, zr h] [] σ (0, 0) Q := by
  obtain ⟨nw, g1, g2, g3, g4, g5, g6⟩ := n
  have o10 : zobj σ 10 6 := hS.obj (by decide) (by decide) rfl
  have r1 : zR σ 10 1 = 12 := hS.2.2 10 1 (by unfold rfx; omega)
  have r0' : zR σ 10 0 = 11 := hS.2.2 10 0 (by unfold rfx; omega)
  have em : Int.tmod (zI σ 10 2 + 1) 60 = (nw + 1) % 60 := by rw [g1, Int.tmod_eq_emod_of_nonneg (by omega)]
  have ed : Int.tdiv (zI σ 10 2 + 1) 60 = (nw + 1) / 60 := by rw [g1, Int.tdiv_eq_ediv_of_nonneg (by omega)]
  obtain ⟨nx, hnx⟩ : ∃ nx, nx = (nw + 1) % 60 := ⟨_, rfl⟩
  have b0 : 0 ≤ nx ∧ nx < 60 := by omega
  have r11 : zR σ 11 nx = 13 + 2 * nx.toNat := hS.2.2 11 nx (by unfold rfx; omega)
  rw [← hnx] at em
  have f1 : Fr nfr σ (wI σ 10 2 nx) := Fr.wI (Or.inl rfl)
  have f2 : Fr nfr σ (wI (wI σ 10 2 nx) 12 nx s) := f1.tr (Fr.wI (Or.inr ⟨by omega, by omega⟩))
  have ex : zI (wI σ 10 2 nx) 10 2 = nx := by rw [zI_wI, if_pos ⟨rfl, rfl⟩]
  have ey : zI (wI (wI σ 10 2 nx) 12 nx s) 10 2 = nx := by rw [zI_wI, if_neg (by omega), ex]
  have hS2 := f2.shp hS
  have key : WP m_Sum_take 0 [zr (13 + 2 * nx.toNat), zr h] [] (wI (wI σ 10 2 nx) 12 nx s) (0, 0) (fun r1 σ2 => (zobj σ2 10 6 ∧ ((-2147483648 ≤ ((zI σ2 10 3) + 1 : Int) ∧ ((zI σ2 10 3) + 1 : Int) ≤ 2147483647) ∧ (WP m_Math_min_7cf53 0 [zi ((zI σ2 10 3) + 1), zi 60] [] σ2 (0, 0) (fun r4 σ5 => zrI r4 (fun y6 => (zobj σ5 10 6 ∧ Q zu (wI σ5 10 3 y6)))))))) := by
    refine t_Sum_take (l := l) (isS_apart (isS_note b0.1 b0.2) hh (by omega)) hp (hS2.sumO (isS_note b0.1 b0.2)) (hS2.sumO hh) (f2.lz (by intro w; omega) (by intro w; omega) hl) (fun σ' k1 k2 => ?_)
    have h3 : zI σ' 10 3 = (N.length : Int) := by
      rw [(k2.2.2.2 10 (by intro w; omega)).1, zI_wI, if_neg (by omega), zI_wI, if_neg (by omega)]
      exact g4
    have f3 : Fr nfr σ σ' := f2.tr (k2.mono (fun a w => by right; omega))
    refine ⟨k2.obj (f2.obj o10), by rw [h3]; omega, t_min ⟨k2.obj (f2.obj o10), q _ ?_ (f3.tr (Fr.wI (Or.inl rfl)))⟩⟩
    have e2 : zI σ' 10 2 = nx := by rw [(k2.2.2.2 10 (by intro w; omega)).1]; exact ey
    have hlen : (((s, l) :: N).take 60).length = min 60 (N.length + 1) := by rw [List.length_take, List.length_cons]
    refine ⟨nx, by rw [zI_wI, if_neg (by omega)]; exact e2, b0.1, b0.2, ?_, by rw [hlen]; omega, fun k e he => ?_⟩
    · rw [zI_wI, if_pos ⟨rfl, rfl⟩, h3, hlen]
      omega
    · have f4 : Fr (fun a => a = 10) σ' (wI σ' 10 3 (min (zI σ' 10 3 + 1) 60)) := Fr.wI rfl
      have hk60 : k < 60 := by
        have := (List.getElem?_eq_some_iff.mp he).1
        rw [hlen] at this
        omega
      rw [List.getElem?_take_of_lt hk60] at he
      have hb := nix_bd (nw := nx) (k := k)
      rw [(f4.2.2.2 12 (by omega)).1]
      rcases k with _ | k
      · cases he
        have e0 : nix nx 0 = nx := by unfold nix; omega
        rw [e0]
        refine ⟨?_, f4.lz (by omega) (by omega) k1⟩
        rw [(k2.2.2.2 12 (by intro w; omega)).1, zI_wI, if_pos ⟨rfl, rfl⟩]
      · have he : N[k]? = some e := he
        have ek : nix nx (k + 1) = nix nw k := by unfold nix; omega
        have hne : nix nw k ≠ nx := by unfold nix; omega
        have hb2 := nix_bd (nw := nw) (k := k)
        obtain ⟨q1, q2⟩ := g6 k e he
        rw [ek]
        refine ⟨?_, f4.lz (by omega) (by omega) (k2.lz (by intro w; omega) (by intro w; omega) ?_)⟩
        · rw [(k2.2.2.2 12 (by intro w; omega)).1, zI_wI, if_neg (by omega), zI_wI, if_neg (by omega)]
          exact q1
        · have f5 : Fr (fun a => a = 10 ∨ a = 12) σ (wI (wI σ 10 2 nx) 12 nx s) := (Fr.wI (Or.inl rfl)).tr (Fr.wI (Or.inr rfl))
          exact f5.lz (by omega) (by omega) q2
  have a1 : zarr (wI σ 10 2 nx) 12 100 nx := (f1.shp hS).arr (by decide) (by decide) rfl b0.1 (by omega)
  have a2 : zarr (wI (wI σ 10 2 nx) 12 nx s) 11 103 nx := hS2.arr (by decide) (by decide) rfl b0.1 (by omega)
  refine r_Notes_keep_0 ?_
  rw [em, ed]
  have r1' : ∀ x : Int, zR (wI σ 10 2 x) 10 1 = 12 := fun _ => r1
  have r2' : ∀ x y z : Int, zR (wI (wI σ 10 2 x) 12 y z) 10 0 = 11 := fun _ _ _ => r0'
  have r3' : zR (wI (wI σ 10 2 nx) 12 nx s) 11 nx = 13 + 2 * nx.toNat := r11
  simp only [r1', ex, r2', ey, r3']
  exact ⟨o10, by rw [g1]; omega, by decide, by omega, o10, f1.obj o10, f1.obj o10, a1, f2.obj o10, f2.obj o10, Or.inl a2, (hS2.sumO (isS_note b0.1 b0.2)).1, key⟩
