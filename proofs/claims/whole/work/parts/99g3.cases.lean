/-! the cases of the law, printed by mkcases.py -/
theorem lw_factors {σ : ZM} {Q : ZQ} {S : Int → List Int} {N : List (Int × List Int)} {L : Int → LW} {R : Int → SQ} {scr : Int → Int} {len k1 k2 : Nat} {i : Int} (hr : ∀ j, -2147483648 ≤ scr j ∧ scr j ≤ 2147483647) (nn : NN N) (c : CI σ S N L R) (m : MM σ S N L R) (sc : SC σ scr len) (i0 : 0 ≤ i) (i6 : i + 6 < (len : Int)) (il : len ≤ 3584) (next : ∀ σ' S' N' L' R', NN N' → CI σ' S' N' L' R' → MM σ' S' N' L' R' → SC σ' scr len → WP m_Law__law 1338 [zr 1, zr 2, zr 192, zi i] [] σ' (k1, k2) Q) : WP m_Law__law 1076 [zr 1, zr 2, zr 192, zi i] [] σ (k1, k2) Q := by
  have sp := c.pts
  have hsc := sc.2
  have hl : ((zS σ 1).2 : Int) = (len : Int) := by rw [sc.1]
  refine r_Law__law_1076 ?_
  simp only [hsc]
  refine ⟨by omega, Or.inr ⟨trivial, by omega, by omega⟩, by omega, Or.inr ⟨trivial, by omega, by omega⟩, by omega, Or.inr ⟨trivial, by omega, by omega⟩, by omega, Or.inr ⟨trivial, by omega, by omega⟩, c.1.1.obj (by decide) (by decide) rfl, t_factors c.1.1 c.2.2 (fun a0 => ?_) (fun a0 a1 a2 a3 a4 a5 a6 a7 τ hR fr => ?_)⟩
  · have c1 := c
    have m1 := m
    have sc1 := sc
    have nn1 := nn
    have hsc1 := sc1.2
    have hl1 : ((zS σ 1).2 : Int) = (len : Int) := by rw [sc1.1]
    simp only [hsc1, zrI, zrL]
    refine ⟨by omega, Or.inr ⟨trivial, by omega, by omega⟩, by omega, Or.inr ⟨trivial, by omega, by omega⟩, by omega, Or.inr ⟨trivial, by omega, by omega⟩, by omega, Or.inr ⟨trivial, by omega, by omega⟩, c1.1.1.obj (by decide) (by decide) rfl, m_factors c1.1.1 m1.2.2 (hr _) (hr _) (hr _) (hr _) (fun b0 => ?_) (fun b0 b1 b2 b3 b4 b5 b6 b7 υ gR fm => ?_)⟩
    · exact lfI rfl (next _ _ _ _ _ nn1 c1 m1 sc1)
    · omega
  · have fz : Fz cfr σ τ := fr.z (fun a j w => by omega)
    have m1 := MM.z fz m
    have sc1 := SC.zc fz sc
    have f1 : Fz (fun a _ => (rwf) a) σ τ := fr.z (fun a j w => w)
    have c1 : CI τ _ _ _ _ := ⟨f1.ai (fun a j w v => by omega) c.1, f1.coI (fun a j w v => by omega) c.2.1, hR⟩
    have nn1 := nn
    have hsc1 := sc1.2
    have hl1 : ((zS τ 1).2 : Int) = (len : Int) := by rw [sc1.1]
    simp only [hsc1, zrI, zrL]
    refine ⟨by omega, Or.inr ⟨trivial, by omega, by omega⟩, by omega, Or.inr ⟨trivial, by omega, by omega⟩, by omega, Or.inr ⟨trivial, by omega, by omega⟩, by omega, Or.inr ⟨trivial, by omega, by omega⟩, c1.1.1.obj (by decide) (by decide) rfl, m_factors c1.1.1 m1.2.2 (hr _) (hr _) (hr _) (hr _) (fun b0 => ?_) (fun b0 b1 b2 b3 b4 b5 b6 b7 υ gR fm => ?_)⟩
    · omega
    · have g1 := fm
      have gz : Fz mfz τ υ := g1.mono (fun a j w => by omega)
      exact lfI rfl (next υ _ _ _ _ nn1 (CI.z gz c1) ⟨g1.mi (fun a j w v => by omega) m1.1, g1.mco (fun a j w v => by omega) m1.2.1, gR⟩ (SC.zm gz sc1))
theorem lw_signs {σ : ZM} {Q : ZQ} {S : Int → List Int} {N : List (Int × List Int)} {L : Int → LW} {R : Int → SQ} {scr : Int → Int} {len k1 k2 : Nat} {i : Int} (hr : ∀ j, -2147483648 ≤ scr j ∧ scr j ≤ 2147483647) (nn : NN N) (c : CI σ S N L R) (m : MM σ S N L R) (sc : SC σ scr len) (i0 : 0 ≤ i) (i6 : i + 6 < (len : Int)) (il : len ≤ 3584) (next : ∀ σ' S' N' L' R', NN N' → CI σ' S' N' L' R' → MM σ' S' N' L' R' → SC σ' scr len → WP m_Law__law 1338 [zr 1, zr 2, zr 192, zi i] [] σ' (k1, k2) Q) : WP m_Law__law 1129 [zr 1, zr 2, zr 192, zi i] [] σ (k1, k2) Q := by
  have sp := c.pts
  have hsc := sc.2
  have hl : ((zS σ 1).2 : Int) = (len : Int) := by rw [sc.1]
  refine r_Law__law_1129 ?_
  simp only [hsc]
  refine ⟨by omega, Or.inr ⟨trivial, by omega, by omega⟩, by omega, Or.inr ⟨trivial, by omega, by omega⟩, by omega, Or.inr ⟨trivial, by omega, by omega⟩, c.1.1.obj (by decide) (by decide) rfl, t_signs c.1.1 c.2.2 (fun a0 => ?_) (fun a0 a1 a2 a3 a4 a5 a6 τ hR fr => ?_)⟩
  · have c1 := c
    have m1 := m
    have sc1 := sc
    have nn1 := nn
    have hsc1 := sc1.2
    have hl1 : ((zS σ 1).2 : Int) = (len : Int) := by rw [sc1.1]
    simp only [hsc1, zrI, zrL]
    refine ⟨by omega, Or.inr ⟨trivial, by omega, by omega⟩, by omega, Or.inr ⟨trivial, by omega, by omega⟩, by omega, Or.inr ⟨trivial, by omega, by omega⟩, c1.1.1.obj (by decide) (by decide) rfl, m_signs c1.1.1 m1.2.2 (hr _) (hr _) (hr _) (fun b0 => ?_) (fun b0 b1 b2 b3 b4 b5 b6 υ gR fm => ?_)⟩
    · exact lfI rfl (next _ _ _ _ _ nn1 c1 m1 sc1)
    · omega
  · have fz : Fz cfr σ τ := fr.z (fun a j w => by omega)
    have m1 := MM.z fz m
    have sc1 := SC.zc fz sc
    have f1 : Fz (fun a _ => (rwf) a) σ τ := fr.z (fun a j w => w)
    have c1 : CI τ _ _ _ _ := ⟨f1.ai (fun a j w v => by omega) c.1, f1.coI (fun a j w v => by omega) c.2.1, hR⟩
    have nn1 := nn
    have hsc1 := sc1.2
    have hl1 : ((zS τ 1).2 : Int) = (len : Int) := by rw [sc1.1]
    simp only [hsc1, zrI, zrL]
    refine ⟨by omega, Or.inr ⟨trivial, by omega, by omega⟩, by omega, Or.inr ⟨trivial, by omega, by omega⟩, by omega, Or.inr ⟨trivial, by omega, by omega⟩, c1.1.1.obj (by decide) (by decide) rfl, m_signs c1.1.1 m1.2.2 (hr _) (hr _) (hr _) (fun b0 => ?_) (fun b0 b1 b2 b3 b4 b5 b6 υ gR fm => ?_)⟩
    · omega
    · have g1 := fm
      have gz : Fz mfz τ υ := g1.mono (fun a j w => by omega)
      exact lfI rfl (next υ _ _ _ _ nn1 (CI.z gz c1) ⟨g1.mi (fun a j w v => by omega) m1.1, g1.mco (fun a j w v => by omega) m1.2.1, gR⟩ (SC.zm gz sc1))
theorem lw_counts {σ : ZM} {Q : ZQ} {S : Int → List Int} {N : List (Int × List Int)} {L : Int → LW} {R : Int → SQ} {scr : Int → Int} {len k1 k2 : Nat} {i : Int} (hr : ∀ j, -2147483648 ≤ scr j ∧ scr j ≤ 2147483647) (nn : NN N) (c : CI σ S N L R) (m : MM σ S N L R) (sc : SC σ scr len) (i0 : 0 ≤ i) (i6 : i + 6 < (len : Int)) (il : len ≤ 3584) (next : ∀ σ' S' N' L' R', NN N' → CI σ' S' N' L' R' → MM σ' S' N' L' R' → SC σ' scr len → WP m_Law__law 1338 [zr 1, zr 2, zr 192, zi i] [] σ' (k1, k2) Q) : WP m_Law__law 1172 [zr 1, zr 2, zr 192, zi i] [] σ (k1, k2) Q := by
  have sp := c.pts
  have hsc := sc.2
  have hl : ((zS σ 1).2 : Int) = (len : Int) := by rw [sc.1]
  refine r_Law__law_1172 ?_
  simp only [hsc]
  refine ⟨by omega, Or.inr ⟨trivial, by omega, by omega⟩, by omega, Or.inr ⟨trivial, by omega, by omega⟩, c.1.1.obj (by decide) (by decide) rfl, t_counts c.1.1 c.2.1 c.2.2 (fun a0 => ?_) (fun a0 a1 a2 a3 τ hC hR fr => ?_)⟩
  · have c1 := c
    have m1 := m
    have sc1 := sc
    have nn1 := nn
    have hsc1 := sc1.2
    have hl1 : ((zS σ 1).2 : Int) = (len : Int) := by rw [sc1.1]
    simp only [hsc1, zrI, zrL]
    refine ⟨by omega, Or.inr ⟨trivial, by omega, by omega⟩, by omega, Or.inr ⟨trivial, by omega, by omega⟩, c1.1.1.obj (by decide) (by decide) rfl, m_counts c1.1.1 m1.2.1 m1.2.2 (hr _) (hr _) (fun b0 => ?_) (fun b0 b1 b2 b3 υ gC gR fm => ?_)⟩
    · exact lfI rfl (next _ _ _ _ _ nn1 c1 m1 sc1)
    · omega
  · have fz : Fz cfr σ τ := fr.mono (fun a j w => by omega)
    have m1 := MM.z fz m
    have sc1 := SC.zc fz sc
    have f1 := fr
    have c1 : CI τ _ _ _ _ := ⟨f1.ai (fun a j w v => by omega) c.1, hC, hR⟩
    have nn1 := nn
    have hsc1 := sc1.2
    have hl1 : ((zS τ 1).2 : Int) = (len : Int) := by rw [sc1.1]
    simp only [hsc1, zrI, zrL]
    refine ⟨by omega, Or.inr ⟨trivial, by omega, by omega⟩, by omega, Or.inr ⟨trivial, by omega, by omega⟩, c1.1.1.obj (by decide) (by decide) rfl, m_counts c1.1.1 m1.2.1 m1.2.2 (hr _) (hr _) (fun b0 => ?_) (fun b0 b1 b2 b3 υ gC gR fm => ?_)⟩
    · omega
    · have g1 := fm
      have gz : Fz mfz τ υ := g1.mono (fun a j w => by omega)
      exact lfI rfl (next υ _ _ _ _ nn1 (CI.z gz c1) ⟨g1.mi (fun a j w v => by omega) m1.1, gC, gR⟩ (SC.zm gz sc1))
theorem lw_combine {σ : ZM} {Q : ZQ} {S : Int → List Int} {N : List (Int × List Int)} {L : Int → LW} {R : Int → SQ} {scr : Int → Int} {len k1 k2 : Nat} {i : Int} (hr : ∀ j, -2147483648 ≤ scr j ∧ scr j ≤ 2147483647) (nn : NN N) (c : CI σ S N L R) (m : MM σ S N L R) (sc : SC σ scr len) (i0 : 0 ≤ i) (i6 : i + 6 < (len : Int)) (il : len ≤ 3584) (next : ∀ σ' S' N' L' R', NN N' → CI σ' S' N' L' R' → MM σ' S' N' L' R' → SC σ' scr len → WP m_Law__law 1338 [zr 1, zr 2, zr 192, zi i] [] σ' (k1, k2) Q) : WP m_Law__law 1205 [zr 1, zr 2, zr 192, zi i] [] σ (k1, k2) Q := by
  have sp := c.pts
  have hsc := sc.2
  have hl : ((zS σ 1).2 : Int) = (len : Int) := by rw [sc.1]
  refine r_Law__law_1205 ?_
  simp only [hsc]
  refine ⟨by omega, Or.inr ⟨trivial, by omega, by omega⟩, by omega, Or.inr ⟨trivial, by omega, by omega⟩, by omega, Or.inr ⟨trivial, by omega, by omega⟩, c.1.1.obj (by decide) (by decide) rfl, t_combine c.1.1 c.2.2 (fun a0 => ?_) (fun a0 a1 a2 a3 a4 a5 τ hR fr => ?_)⟩
  · have c1 := c
    have m1 := m
    have sc1 := sc
    have nn1 := nn
    have hsc1 := sc1.2
    have hl1 : ((zS σ 1).2 : Int) = (len : Int) := by rw [sc1.1]
    simp only [hsc1, zrI, zrL]
    refine ⟨by omega, Or.inr ⟨trivial, by omega, by omega⟩, by omega, Or.inr ⟨trivial, by omega, by omega⟩, by omega, Or.inr ⟨trivial, by omega, by omega⟩, c1.1.1.obj (by decide) (by decide) rfl, m_combine c1.1.1 m1.2.2 (hr _) (hr _) (hr _) (fun b0 => ?_) (fun b0 b1 b2 b3 b4 b5 υ gR fm => ?_)⟩
    · exact lfI rfl (next _ _ _ _ _ nn1 c1 m1 sc1)
    · omega
  · have fz : Fz cfr σ τ := fr.z (fun a j w => by omega)
    have m1 := MM.z fz m
    have sc1 := SC.zc fz sc
    have f1 : Fz (fun a _ => (rwf) a) σ τ := fr.z (fun a j w => w)
    have c1 : CI τ _ _ _ _ := ⟨f1.ai (fun a j w v => by omega) c.1, f1.coI (fun a j w v => by omega) c.2.1, hR⟩
    have nn1 := nn
    have hsc1 := sc1.2
    have hl1 : ((zS τ 1).2 : Int) = (len : Int) := by rw [sc1.1]
    simp only [hsc1, zrI, zrL]
    refine ⟨by omega, Or.inr ⟨trivial, by omega, by omega⟩, by omega, Or.inr ⟨trivial, by omega, by omega⟩, by omega, Or.inr ⟨trivial, by omega, by omega⟩, c1.1.1.obj (by decide) (by decide) rfl, m_combine c1.1.1 m1.2.2 (hr _) (hr _) (hr _) (fun b0 => ?_) (fun b0 b1 b2 b3 b4 b5 υ gR fm => ?_)⟩
    · omega
    · have g1 := fm
      have gz : Fz mfz τ υ := g1.mono (fun a j w => by omega)
      exact lfI rfl (next υ _ _ _ _ nn1 (CI.z gz c1) ⟨g1.mi (fun a j w v => by omega) m1.1, g1.mco (fun a j w v => by omega) m1.2.1, gR⟩ (SC.zm gz sc1))
theorem lw_series {σ : ZM} {Q : ZQ} {S : Int → List Int} {N : List (Int × List Int)} {L : Int → LW} {R : Int → SQ} {scr : Int → Int} {len k1 k2 : Nat} {i : Int} (hr : ∀ j, -2147483648 ≤ scr j ∧ scr j ≤ 2147483647) (nn : NN N) (c : CI σ S N L R) (m : MM σ S N L R) (sc : SC σ scr len) (i0 : 0 ≤ i) (i6 : i + 6 < (len : Int)) (il : len ≤ 3584) (next : ∀ σ' S' N' L' R', NN N' → CI σ' S' N' L' R' → MM σ' S' N' L' R' → SC σ' scr len → WP m_Law__law 1338 [zr 1, zr 2, zr 192, zi i] [] σ' (k1, k2) Q) : WP m_Law__law 1248 [zr 1, zr 2, zr 192, zi i] [] σ (k1, k2) Q := by
  have sp := c.pts
  have hsc := sc.2
  have hl : ((zS σ 1).2 : Int) = (len : Int) := by rw [sc.1]
  refine r_Law__law_1248 ?_
  simp only [hsc]
  refine ⟨by omega, Or.inr ⟨trivial, by omega, by omega⟩, by omega, Or.inr ⟨trivial, by omega, by omega⟩, c.1.1.obj (by decide) (by decide) rfl, t_series c.1.1 c.2.2 (fun a0 => ?_) (fun a0 a1 a2 a3 => ?_)⟩
  · have c1 := c
    have m1 := m
    have sc1 := sc
    have nn1 := nn
    have hsc1 := sc1.2
    have hl1 : ((zS σ 1).2 : Int) = (len : Int) := by rw [sc1.1]
    simp only [hsc1, zrI, zrL]
    refine ⟨by omega, Or.inr ⟨trivial, by omega, by omega⟩, by omega, Or.inr ⟨trivial, by omega, by omega⟩, c1.1.1.obj (by decide) (by decide) rfl, m_series c1.1.1 m1.2.2 (hr _) (hr _) (fun b0 => ?_) (fun b0 b1 b2 b3 => ?_)⟩
    · exact lfL rfl (next _ _ _ _ _ nn1 c1 m1 sc1)
    · omega
  · have c1 := c
    have m1 := m
    have sc1 := sc
    have nn1 := nn
    have hsc1 := sc1.2
    have hl1 : ((zS σ 1).2 : Int) = (len : Int) := by rw [sc1.1]
    simp only [hsc1, zrI, zrL]
    refine ⟨by omega, Or.inr ⟨trivial, by omega, by omega⟩, by omega, Or.inr ⟨trivial, by omega, by omega⟩, c1.1.1.obj (by decide) (by decide) rfl, m_series c1.1.1 m1.2.2 (hr _) (hr _) (fun b0 => ?_) (fun b0 b1 b2 b3 => ?_)⟩
    · omega
    · exact lfL rfl (next _ _ _ _ _ nn1 c1 m1 sc1)
theorem lw_same {σ : ZM} {Q : ZQ} {S : Int → List Int} {N : List (Int × List Int)} {L : Int → LW} {R : Int → SQ} {scr : Int → Int} {len k1 k2 : Nat} {i : Int} (hr : ∀ j, -2147483648 ≤ scr j ∧ scr j ≤ 2147483647) (nn : NN N) (c : CI σ S N L R) (m : MM σ S N L R) (sc : SC σ scr len) (i0 : 0 ≤ i) (i6 : i + 6 < (len : Int)) (il : len ≤ 3584) (next : ∀ σ' S' N' L' R', NN N' → CI σ' S' N' L' R' → MM σ' S' N' L' R' → SC σ' scr len → WP m_Law__law 1338 [zr 1, zr 2, zr 192, zi i] [] σ' (k1, k2) Q) : WP m_Law__law 1282 [zr 1, zr 2, zr 192, zi i] [] σ (k1, k2) Q := by
  have sp := c.pts
  have hsc := sc.2
  have hl : ((zS σ 1).2 : Int) = (len : Int) := by rw [sc.1]
  refine r_Law__law_1282 ?_
  simp only [hsc]
  refine ⟨by omega, Or.inr ⟨trivial, by omega, by omega⟩, by omega, Or.inr ⟨trivial, by omega, by omega⟩, c.1.1.obj (by decide) (by decide) rfl, t_same c.1.1 c.2.2 (fun a0 => ?_) (fun a0 a1 a2 a3 rc a4 => ?_)⟩
  · have c1 := c
    have m1 := m
    have sc1 := sc
    have nn1 := nn
    have hsc1 := sc1.2
    have hl1 : ((zS σ 1).2 : Int) = (len : Int) := by rw [sc1.1]
    simp only [hsc1, zrI, zrL]
    refine ⟨by omega, Or.inr ⟨trivial, by omega, by omega⟩, by omega, Or.inr ⟨trivial, by omega, by omega⟩, c1.1.1.obj (by decide) (by decide) rfl, m_same c1.1.1 m1.2.2 (hr _) (hr _) (fun b0 => ?_) (fun b0 b1 b2 b3 rm b4 => ?_)⟩
    · exact lfI rfl (next _ _ _ _ _ nn1 c1 m1 sc1)
    · omega
  · have c1 := c
    have m1 := m
    have sc1 := sc
    have nn1 := nn
    have hsc1 := sc1.2
    have hl1 : ((zS σ 1).2 : Int) = (len : Int) := by rw [sc1.1]
    simp only [hsc1, zrI, zrL]
    refine ⟨by omega, Or.inr ⟨trivial, by omega, by omega⟩, by omega, Or.inr ⟨trivial, by omega, by omega⟩, c1.1.1.obj (by decide) (by decide) rfl, m_same c1.1.1 m1.2.2 (hr _) (hr _) (fun b0 => ?_) (fun b0 b1 b2 b3 rm b4 => ?_)⟩
    · omega
    · have ev : rm = rc := SameR.uniq b4 a4
      subst ev
      exact lfI rfl (next _ _ _ _ _ nn1 c1 m1 sc1)
theorem lw_told {σ : ZM} {Q : ZQ} {S : Int → List Int} {N : List (Int × List Int)} {L : Int → LW} {R : Int → SQ} {scr : Int → Int} {len k1 k2 : Nat} {i : Int} (hr : ∀ j, -2147483648 ≤ scr j ∧ scr j ≤ 2147483647) (nn : NN N) (c : CI σ S N L R) (m : MM σ S N L R) (sc : SC σ scr len) (i0 : 0 ≤ i) (i6 : i + 6 < (len : Int)) (il : len ≤ 3584) (next : ∀ σ' S' N' L' R', NN N' → CI σ' S' N' L' R' → MM σ' S' N' L' R' → SC σ' scr len → WP m_Law__law 1338 [zr 1, zr 2, zr 192, zi i] [] σ' (k1, k2) Q) : WP m_Law__law 1315 [zr 1, zr 2, zr 192, zi i] [] σ (k1, k2) Q := by
  have sp := c.pts
  have hsc := sc.2
  have hl : ((zS σ 1).2 : Int) = (len : Int) := by rw [sc.1]
  refine r_Law__law_1315 ?_
  simp only [hsc]
  refine ⟨by omega, Or.inr ⟨trivial, by omega, by omega⟩, c.1.1.obj (by decide) (by decide) rfl, t_told c.1 c.2.1.1 (fun a0 => ?_) (fun a0 => ?_) (fun a0 a1 => ?_)⟩
  · have c1 := c
    have m1 := m
    have sc1 := sc
    have nn1 := nn
    have hsc1 := sc1.2
    have hl1 : ((zS σ 1).2 : Int) = (len : Int) := by rw [sc1.1]
    simp only [hsc1, zrI, zrL]
    refine ⟨by omega, Or.inr ⟨trivial, by omega, by omega⟩, c1.1.1.obj (by decide) (by decide) rfl, m_told m1.1 m1.2.1.1 (hr _) (fun b0 => ?_) (fun b0 => ?_) (fun b0 b1 => ?_)⟩
    · exact lfI rfl (next _ _ _ _ _ nn1 c1 m1 sc1)
    · omega
    · omega
  · have c1 := c
    have m1 := m
    have sc1 := sc
    have nn1 := nn
    have hsc1 := sc1.2
    have hl1 : ((zS σ 1).2 : Int) = (len : Int) := by rw [sc1.1]
    simp only [hsc1, zrI, zrL]
    refine ⟨by omega, Or.inr ⟨trivial, by omega, by omega⟩, c1.1.1.obj (by decide) (by decide) rfl, m_told m1.1 m1.2.1.1 (hr _) (fun b0 => ?_) (fun b0 => ?_) (fun b0 b1 => ?_)⟩
    · omega
    · exact lfI rfl (next _ _ _ _ _ nn1 c1 m1 sc1)
    · omega
  · have c1 := c
    have m1 := m
    have sc1 := sc
    have nn1 := nn
    have hsc1 := sc1.2
    have hl1 : ((zS σ 1).2 : Int) = (len : Int) := by rw [sc1.1]
    simp only [hsc1, zrI, zrL]
    refine ⟨by omega, Or.inr ⟨trivial, by omega, by omega⟩, c1.1.1.obj (by decide) (by decide) rfl, m_told m1.1 m1.2.1.1 (hr _) (fun b0 => ?_) (fun b0 => ?_) (fun b0 b1 => ?_)⟩
    · omega
    · omega
    · exact lfI rfl (next _ _ _ _ _ nn1 c1 m1 sc1)
