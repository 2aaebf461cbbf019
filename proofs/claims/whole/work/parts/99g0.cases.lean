/-! the cases of the law, printed by mkcases.py -/
theorem lw_part {σ : ZM} {Q : ZQ} {S : Int → List Int} {N : List (Int × List Int)} {L : Int → LW} {R : Int → SQ} {scr : Int → Int} {len k1 k2 : Nat} {i : Int} (hr : ∀ j, -2147483648 ≤ scr j ∧ scr j ≤ 2147483647) (nn : NN N) (c : CI σ S N L R) (m : MM σ S N L R) (sc : SC σ scr len) (i0 : 0 ≤ i) (i6 : i + 6 < (len : Int)) (il : len ≤ 3584) (next : ∀ σ' S' N' L' R', NN N' → CI σ' S' N' L' R' → MM σ' S' N' L' R' → SC σ' scr len → WP m_Law__law 1338 [zr 1, zr 2, zr 192, zi i] [] σ' (k1, k2) Q) : WP m_Law__law 164 [zr 1, zr 2, zr 192, zi i] [] σ (k1, k2) Q := by
  have sp := c.pts
  have hsc := sc.2
  have hl : ((zS σ 1).2 : Int) = (len : Int) := by rw [sc.1]
  refine r_Law__law_164 ?_
  simp only [hsc]
  refine ⟨by omega, Or.inr ⟨trivial, by omega, by omega⟩, by omega, Or.inr ⟨trivial, by omega, by omega⟩, c.1.1.obj (by decide) (by decide) rfl, t_part c.1 (hr _) (fun a0 => ?_) (fun a0 a1 a2 a3 a4 => ?_) (fun a0 a1 a2 a3 a4 τ hA fr => ?_)⟩
  · have c1 := c
    have m1 := m
    have sc1 := sc
    have nn1 := nn
    have hsc1 := sc1.2
    have hl1 : ((zS σ 1).2 : Int) = (len : Int) := by rw [sc1.1]
    simp only [hsc1, zrI, zrL]
    refine ⟨by omega, Or.inr ⟨trivial, by omega, by omega⟩, by omega, Or.inr ⟨trivial, by omega, by omega⟩, c1.1.1.obj (by decide) (by decide) rfl, m_part m1.1 sp (hr _) (hr _) (fun b0 => ?_) (fun b0 b1 b2 b3 b4 => ?_) (fun b0 b1 b2 b3 b4 υ gA fm => ?_)⟩
    · exact lfI rfl (next _ _ _ _ _ nn1 c1 m1 sc1)
    · omega
    · omega
  · have c1 := c
    have m1 := m
    have sc1 := sc
    have nn1 := nn
    have hsc1 := sc1.2
    have hl1 : ((zS σ 1).2 : Int) = (len : Int) := by rw [sc1.1]
    simp only [hsc1, zrI, zrL]
    refine ⟨by omega, Or.inr ⟨trivial, by omega, by omega⟩, by omega, Or.inr ⟨trivial, by omega, by omega⟩, c1.1.1.obj (by decide) (by decide) rfl, m_part m1.1 sp (hr _) (hr _) (fun b0 => ?_) (fun b0 b1 b2 b3 b4 => ?_) (fun b0 b1 b2 b3 b4 υ gA fm => ?_)⟩
    · omega
    · exact lfI rfl (next _ _ _ _ _ nn1 c1 m1 sc1)
    · omega
  · have fz : Fz cfr σ τ := fr.z (fun a j w => by omega)
    have m1 := MM.z fz m
    have sc1 := SC.zc fz sc
    have f1 : Fz (fun a _ => (acf) a) σ τ := fr.z (fun a j w => w)
    have c1 : CI τ _ _ _ _ := ⟨hA, f1.coI (fun a j w v => by omega) c.2.1, f1.rowsI (fun a j w w2 v => by omega) c.2.2⟩
    have nn1 : NN (actN S N (scr (i + 1))) := NN.act nn sp (by omega) (by omega)
    have hsc1 := sc1.2
    have hl1 : ((zS τ 1).2 : Int) = (len : Int) := by rw [sc1.1]
    simp only [hsc1, zrI, zrL]
    refine ⟨by omega, Or.inr ⟨trivial, by omega, by omega⟩, by omega, Or.inr ⟨trivial, by omega, by omega⟩, c1.1.1.obj (by decide) (by decide) rfl, m_part m1.1 sp (hr _) (hr _) (fun b0 => ?_) (fun b0 b1 b2 b3 b4 => ?_) (fun b0 b1 b2 b3 b4 υ gA fm => ?_)⟩
    · omega
    · omega
    · have g1 := fm
      have gz : Fz mfz τ υ := g1.mono (fun a j w => by omega)
      exact lfI rfl (next υ _ _ _ _ nn1 (CI.z gz c1) ⟨gA, g1.mco (fun a j w v => by omega) m1.2.1, g1.mrows (fun j v => by omega) m1.2.2⟩ (SC.zm gz sc1))
theorem lw_clear {σ : ZM} {Q : ZQ} {S : Int → List Int} {N : List (Int × List Int)} {L : Int → LW} {R : Int → SQ} {scr : Int → Int} {len k1 k2 : Nat} {i : Int} (hr : ∀ j, -2147483648 ≤ scr j ∧ scr j ≤ 2147483647) (nn : NN N) (c : CI σ S N L R) (m : MM σ S N L R) (sc : SC σ scr len) (i0 : 0 ≤ i) (i6 : i + 6 < (len : Int)) (il : len ≤ 3584) (next : ∀ σ' S' N' L' R', NN N' → CI σ' S' N' L' R' → MM σ' S' N' L' R' → SC σ' scr len → WP m_Law__law 1338 [zr 1, zr 2, zr 192, zi i] [] σ' (k1, k2) Q) : WP m_Law__law 197 [zr 1, zr 2, zr 192, zi i] [] σ (k1, k2) Q := by
  have sp := c.pts
  have hsc := sc.2
  have hl : ((zS σ 1).2 : Int) = (len : Int) := by rw [sc.1]
  refine r_Law__law_197 ?_
  simp only [hsc]
  refine ⟨by omega, Or.inr ⟨trivial, by omega, by omega⟩, c.1.1.obj (by decide) (by decide) rfl, t_clear c.1 (fun a0 => ?_) (fun a0 a1 τ hA fr => ?_)⟩
  · have c1 := c
    have m1 := m
    have sc1 := sc
    have nn1 := nn
    have hsc1 := sc1.2
    have hl1 : ((zS σ 1).2 : Int) = (len : Int) := by rw [sc1.1]
    simp only [hsc1, zrI, zrL]
    refine ⟨by omega, Or.inr ⟨trivial, by omega, by omega⟩, c1.1.1.obj (by decide) (by decide) rfl, m_clear m1.1 sp (hr _) (fun b0 => ?_) (fun b0 b1 υ gA fm => ?_)⟩
    · exact lfI rfl (next _ _ _ _ _ nn1 c1 m1 sc1)
    · omega
  · have fz : Fz cfr σ τ := fr.z (fun a j w => by omega)
    have m1 := MM.z fz m
    have sc1 := SC.zc fz sc
    have f1 : Fz (fun a _ => (acf) a) σ τ := fr.z (fun a j w => w)
    have c1 : CI τ _ _ _ _ := ⟨hA, f1.coI (fun a j w v => by omega) c.2.1, f1.rowsI (fun a j w w2 v => by omega) c.2.2⟩
    have nn1 : NN (actN S N (scr (i + 1))) := NN.act nn sp (by omega) (by omega)
    have hsc1 := sc1.2
    have hl1 : ((zS τ 1).2 : Int) = (len : Int) := by rw [sc1.1]
    simp only [hsc1, zrI, zrL]
    refine ⟨by omega, Or.inr ⟨trivial, by omega, by omega⟩, c1.1.1.obj (by decide) (by decide) rfl, m_clear m1.1 sp (hr _) (fun b0 => ?_) (fun b0 b1 υ gA fm => ?_)⟩
    · omega
    · have g1 := fm
      have gz : Fz mfz τ υ := g1.mono (fun a j w => by omega)
      exact lfI rfl (next υ _ _ _ _ nn1 (CI.z gz c1) ⟨gA, g1.mco (fun a j w v => by omega) m1.2.1, g1.mrows (fun j v => by omega) m1.2.2⟩ (SC.zm gz sc1))
theorem lw_copy {σ : ZM} {Q : ZQ} {S : Int → List Int} {N : List (Int × List Int)} {L : Int → LW} {R : Int → SQ} {scr : Int → Int} {len k1 k2 : Nat} {i : Int} (hr : ∀ j, -2147483648 ≤ scr j ∧ scr j ≤ 2147483647) (nn : NN N) (c : CI σ S N L R) (m : MM σ S N L R) (sc : SC σ scr len) (i0 : 0 ≤ i) (i6 : i + 6 < (len : Int)) (il : len ≤ 3584) (next : ∀ σ' S' N' L' R', NN N' → CI σ' S' N' L' R' → MM σ' S' N' L' R' → SC σ' scr len → WP m_Law__law 1338 [zr 1, zr 2, zr 192, zi i] [] σ' (k1, k2) Q) : WP m_Law__law 220 [zr 1, zr 2, zr 192, zi i] [] σ (k1, k2) Q := by
  have sp := c.pts
  have hsc := sc.2
  have hl : ((zS σ 1).2 : Int) = (len : Int) := by rw [sc.1]
  refine r_Law__law_220 ?_
  simp only [hsc]
  refine ⟨by omega, Or.inr ⟨trivial, by omega, by omega⟩, by omega, Or.inr ⟨trivial, by omega, by omega⟩, c.1.1.obj (by decide) (by decide) rfl, t_copy c.1 (fun a0 => ?_) (fun a0 a1 a2 a3 τ hA fr => ?_)⟩
  · have c1 := c
    have m1 := m
    have sc1 := sc
    have nn1 := nn
    have hsc1 := sc1.2
    have hl1 : ((zS σ 1).2 : Int) = (len : Int) := by rw [sc1.1]
    simp only [hsc1, zrI, zrL]
    refine ⟨by omega, Or.inr ⟨trivial, by omega, by omega⟩, by omega, Or.inr ⟨trivial, by omega, by omega⟩, c1.1.1.obj (by decide) (by decide) rfl, m_copy m1.1 sp (hr _) (hr _) (fun b0 => ?_) (fun b0 b1 b2 b3 υ gA fm => ?_)⟩
    · exact lfI rfl (next _ _ _ _ _ nn1 c1 m1 sc1)
    · omega
  · have fz : Fz cfr σ τ := fr.z (fun a j w => by omega)
    have m1 := MM.z fz m
    have sc1 := SC.zc fz sc
    have f1 : Fz (fun a _ => (acf) a) σ τ := fr.z (fun a j w => w)
    have c1 : CI τ _ _ _ _ := ⟨hA, f1.coI (fun a j w v => by omega) c.2.1, f1.rowsI (fun a j w w2 v => by omega) c.2.2⟩
    have nn1 : NN (actN S N (scr (i + 2))) := NN.act nn sp (by omega) (by omega)
    have hsc1 := sc1.2
    have hl1 : ((zS τ 1).2 : Int) = (len : Int) := by rw [sc1.1]
    simp only [hsc1, zrI, zrL]
    refine ⟨by omega, Or.inr ⟨trivial, by omega, by omega⟩, by omega, Or.inr ⟨trivial, by omega, by omega⟩, c1.1.1.obj (by decide) (by decide) rfl, m_copy m1.1 sp (hr _) (hr _) (fun b0 => ?_) (fun b0 b1 b2 b3 υ gA fm => ?_)⟩
    · omega
    · have g1 := fm
      have gz : Fz mfz τ υ := g1.mono (fun a j w => by omega)
      exact lfI rfl (next υ _ _ _ _ nn1 (CI.z gz c1) ⟨gA, g1.mco (fun a j w v => by omega) m1.2.1, g1.mrows (fun j v => by omega) m1.2.2⟩ (SC.zm gz sc1))
theorem lw_sheet {σ : ZM} {Q : ZQ} {S : Int → List Int} {N : List (Int × List Int)} {L : Int → LW} {R : Int → SQ} {scr : Int → Int} {len k1 k2 : Nat} {i : Int} (hr : ∀ j, -2147483648 ≤ scr j ∧ scr j ≤ 2147483647) (nn : NN N) (c : CI σ S N L R) (m : MM σ S N L R) (sc : SC σ scr len) (i0 : 0 ≤ i) (i6 : i + 6 < (len : Int)) (il : len ≤ 3584) (next : ∀ σ' S' N' L' R', NN N' → CI σ' S' N' L' R' → MM σ' S' N' L' R' → SC σ' scr len → WP m_Law__law 1338 [zr 1, zr 2, zr 192, zi i] [] σ' (k1, k2) Q) : WP m_Law__law 253 [zr 1, zr 2, zr 192, zi i] [] σ (k1, k2) Q := by
  have sp := c.pts
  have hsc := sc.2
  have hl : ((zS σ 1).2 : Int) = (len : Int) := by rw [sc.1]
  refine r_Law__law_253 ?_
  simp only [hsc]
  refine ⟨by omega, Or.inr ⟨trivial, by omega, by omega⟩, by omega, Or.inr ⟨trivial, by omega, by omega⟩, c.1.1.obj (by decide) (by decide) rfl, t_sheet c.1 (hr _) (fun a0 => ?_) (fun a0 a1 rc a2 => ?_)⟩
  · have c1 := c
    have m1 := m
    have sc1 := sc
    have nn1 := nn
    have hsc1 := sc1.2
    have hl1 : ((zS σ 1).2 : Int) = (len : Int) := by rw [sc1.1]
    simp only [hsc1, zrI, zrL]
    refine ⟨by omega, Or.inr ⟨trivial, by omega, by omega⟩, by omega, Or.inr ⟨trivial, by omega, by omega⟩, c1.1.1.obj (by decide) (by decide) rfl, m_sheet m1.1 sp (hr _) (hr _) (fun b0 => ?_) (fun b0 b1 rm b2 => ?_)⟩
    · exact lfI rfl (next _ _ _ _ _ nn1 c1 m1 sc1)
    · omega
  · have c1 := c
    have m1 := m
    have sc1 := sc
    have nn1 := nn
    have hsc1 := sc1.2
    have hl1 : ((zS σ 1).2 : Int) = (len : Int) := by rw [sc1.1]
    simp only [hsc1, zrI, zrL]
    refine ⟨by omega, Or.inr ⟨trivial, by omega, by omega⟩, by omega, Or.inr ⟨trivial, by omega, by omega⟩, c1.1.1.obj (by decide) (by decide) rfl, m_sheet m1.1 sp (hr _) (hr _) (fun b0 => ?_) (fun b0 b1 rm b2 => ?_)⟩
    · omega
    · have ev : rm = rc := shA'.uniq b2 a2
      subst ev
      exact lfI rfl (next _ _ _ _ _ nn1 c1 m1 sc1)
theorem lw_hook {σ : ZM} {Q : ZQ} {S : Int → List Int} {N : List (Int × List Int)} {L : Int → LW} {R : Int → SQ} {scr : Int → Int} {len k1 k2 : Nat} {i : Int} (hr : ∀ j, -2147483648 ≤ scr j ∧ scr j ≤ 2147483647) (nn : NN N) (c : CI σ S N L R) (m : MM σ S N L R) (sc : SC σ scr len) (i0 : 0 ≤ i) (i6 : i + 6 < (len : Int)) (il : len ≤ 3584) (next : ∀ σ' S' N' L' R', NN N' → CI σ' S' N' L' R' → MM σ' S' N' L' R' → SC σ' scr len → WP m_Law__law 1338 [zr 1, zr 2, zr 192, zi i] [] σ' (k1, k2) Q) : WP m_Law__law 286 [zr 1, zr 2, zr 192, zi i] [] σ (k1, k2) Q := by
  have sp := c.pts
  have hsc := sc.2
  have hl : ((zS σ 1).2 : Int) = (len : Int) := by rw [sc.1]
  refine r_Law__law_286 ?_
  simp only [hsc]
  refine ⟨by omega, Or.inr ⟨trivial, by omega, by omega⟩, by omega, Or.inr ⟨trivial, by omega, by omega⟩, by omega, Or.inr ⟨trivial, by omega, by omega⟩, c.1.1.obj (by decide) (by decide) rfl, t_hook c.1 (fun a0 => ?_) (fun a0 a1 a2 a3 a4 => ?_)⟩
  · have c1 := c
    have m1 := m
    have sc1 := sc
    have nn1 := nn
    have hsc1 := sc1.2
    have hl1 : ((zS σ 1).2 : Int) = (len : Int) := by rw [sc1.1]
    simp only [hsc1, zrI, zrL]
    refine ⟨by omega, Or.inr ⟨trivial, by omega, by omega⟩, by omega, Or.inr ⟨trivial, by omega, by omega⟩, by omega, Or.inr ⟨trivial, by omega, by omega⟩, c1.1.1.obj (by decide) (by decide) rfl, m_hook m1.1 sp (hr _) (hr _) (hr _) (fun b0 => ?_) (fun b0 b1 b2 b3 b4 => ?_)⟩
    · exact lfI rfl (next _ _ _ _ _ nn1 c1 m1 sc1)
    · omega
  · have c1 := c
    have m1 := m
    have sc1 := sc
    have nn1 := nn
    have hsc1 := sc1.2
    have hl1 : ((zS σ 1).2 : Int) = (len : Int) := by rw [sc1.1]
    simp only [hsc1, zrI, zrL]
    refine ⟨by omega, Or.inr ⟨trivial, by omega, by omega⟩, by omega, Or.inr ⟨trivial, by omega, by omega⟩, by omega, Or.inr ⟨trivial, by omega, by omega⟩, c1.1.1.obj (by decide) (by decide) rfl, m_hook m1.1 sp (hr _) (hr _) (hr _) (fun b0 => ?_) (fun b0 b1 b2 b3 b4 => ?_)⟩
    · omega
    · exact lfI rfl (next _ _ _ _ _ nn1 c1 m1 sc1)
theorem lw_next {σ : ZM} {Q : ZQ} {S : Int → List Int} {N : List (Int × List Int)} {L : Int → LW} {R : Int → SQ} {scr : Int → Int} {len k1 k2 : Nat} {i : Int} (hr : ∀ j, -2147483648 ≤ scr j ∧ scr j ≤ 2147483647) (nn : NN N) (c : CI σ S N L R) (m : MM σ S N L R) (sc : SC σ scr len) (i0 : 0 ≤ i) (i6 : i + 6 < (len : Int)) (il : len ≤ 3584) (next : ∀ σ' S' N' L' R', NN N' → CI σ' S' N' L' R' → MM σ' S' N' L' R' → SC σ' scr len → WP m_Law__law 1338 [zr 1, zr 2, zr 192, zi i] [] σ' (k1, k2) Q) : WP m_Law__law 329 [zr 1, zr 2, zr 192, zi i] [] σ (k1, k2) Q := by
  have sp := c.pts
  have hsc := sc.2
  have hl : ((zS σ 1).2 : Int) = (len : Int) := by rw [sc.1]
  refine r_Law__law_329 ?_
  simp only [hsc]
  refine ⟨by omega, Or.inr ⟨trivial, by omega, by omega⟩, c.1.1.obj (by decide) (by decide) rfl, t_next c.1 (fun a0 => ?_) (fun a0 a1 a2 => ?_) (fun a0 a1 ic a2 τ hA fr => ?_)⟩
  · have c1 := c
    have m1 := m
    have sc1 := sc
    have nn1 := nn
    have hsc1 := sc1.2
    have hl1 : ((zS σ 1).2 : Int) = (len : Int) := by rw [sc1.1]
    simp only [hsc1, zrI, zrL]
    refine ⟨by omega, Or.inr ⟨trivial, by omega, by omega⟩, c1.1.1.obj (by decide) (by decide) rfl, m_next m1.1 sp (hr _) (fun b0 => ?_) (fun b0 b1 b2 => ?_) (fun b0 b1 im b2 υ gA fm => ?_)⟩
    · exact lfI rfl (next _ _ _ _ _ nn1 c1 m1 sc1)
    · omega
    · omega
  · have c1 := c
    have m1 := m
    have sc1 := sc
    have nn1 := nn
    have hsc1 := sc1.2
    have hl1 : ((zS σ 1).2 : Int) = (len : Int) := by rw [sc1.1]
    simp only [hsc1, zrI, zrL]
    refine ⟨by omega, Or.inr ⟨trivial, by omega, by omega⟩, c1.1.1.obj (by decide) (by decide) rfl, m_next m1.1 sp (hr _) (fun b0 => ?_) (fun b0 b1 b2 => ?_) (fun b0 b1 im b2 υ gA fm => ?_)⟩
    · omega
    · exact lfI rfl (next _ _ _ _ _ nn1 c1 m1 sc1)
    · exact (isNx.no (sp _ a0 a1) b2 a2).elim
  · have fz : Fz cfr σ τ := fr.z (fun a j w => by omega)
    have m1 := MM.z fz m
    have sc1 := SC.zc fz sc
    have f1 : Fz (fun a _ => (acf) a) σ τ := fr.z (fun a j w => w)
    have c1 : CI τ _ _ _ _ := ⟨hA, f1.coI (fun a j w v => by omega) c.2.1, f1.rowsI (fun a j w w2 v => by omega) c.2.2⟩
    have nn1 : NN (actN S N (scr (i + 1))) := NN.act nn sp (by omega) (by omega)
    have hsc1 := sc1.2
    have hl1 : ((zS τ 1).2 : Int) = (len : Int) := by rw [sc1.1]
    simp only [hsc1, zrI, zrL]
    refine ⟨by omega, Or.inr ⟨trivial, by omega, by omega⟩, c1.1.1.obj (by decide) (by decide) rfl, m_next m1.1 sp (hr _) (fun b0 => ?_) (fun b0 b1 b2 => ?_) (fun b0 b1 im b2 υ gA fm => ?_)⟩
    · omega
    · exact (isNx.no (sp _ a0 a1) a2 b2).elim
    · have ev : im = ic := isNx.uniq b2 a2
      subst ev
      have g1 := fm
      have gz : Fz mfz τ υ := g1.mono (fun a j w => by omega)
      exact lfI rfl (next υ _ _ _ _ nn1 (CI.z gz c1) ⟨gA, g1.mco (fun a j w v => by omega) m1.2.1, g1.mrows (fun j v => by omega) m1.2.2⟩ (SC.zm gz sc1))
theorem lw_undo {σ : ZM} {Q : ZQ} {S : Int → List Int} {N : List (Int × List Int)} {L : Int → LW} {R : Int → SQ} {scr : Int → Int} {len k1 k2 : Nat} {i : Int} (hr : ∀ j, -2147483648 ≤ scr j ∧ scr j ≤ 2147483647) (nn : NN N) (c : CI σ S N L R) (m : MM σ S N L R) (sc : SC σ scr len) (i0 : 0 ≤ i) (i6 : i + 6 < (len : Int)) (il : len ≤ 3584) (next : ∀ σ' S' N' L' R', NN N' → CI σ' S' N' L' R' → MM σ' S' N' L' R' → SC σ' scr len → WP m_Law__law 1338 [zr 1, zr 2, zr 192, zi i] [] σ' (k1, k2) Q) : WP m_Law__law 352 [zr 1, zr 2, zr 192, zi i] [] σ (k1, k2) Q := by
  have sp := c.pts
  have hsc := sc.2
  have hl : ((zS σ 1).2 : Int) = (len : Int) := by rw [sc.1]
  refine r_Law__law_352 ?_
  refine ⟨c.1.1.obj (by decide) (by decide) rfl, t_undo c.1 nn (fun a0 => ?_) (fun ec Nc a0 τ hA fr => ?_)⟩
  · have c1 := c
    have m1 := m
    have sc1 := sc
    have nn1 := nn
    have hsc1 := sc1.2
    have hl1 : ((zS σ 1).2 : Int) = (len : Int) := by rw [sc1.1]
    simp only [zrI, zrL]
    refine ⟨c1.1.1.obj (by decide) (by decide) rfl, m_undo m1.1 nn (fun b0 => ?_) (fun em Nm b0 υ gA fm => ?_)⟩
    · exact lfI rfl (next _ _ _ _ _ nn1 c1 m1 sc1)
    · rw [a0] at b0; cases b0
  · have fz : Fz cfr σ τ := fr.z (fun a j w => by omega)
    have m1 := MM.z fz m
    have sc1 := SC.zc fz sc
    have f1 : Fz (fun a _ => (acf) a) σ τ := fr.z (fun a j w => w)
    have c1 : CI τ _ _ _ _ := ⟨hA, f1.coI (fun a j w v => by omega) c.2.1, f1.rowsI (fun a j w w2 v => by omega) c.2.2⟩
    have nn1 : NN Nc := fun e he => nn e (by rw [a0]; exact List.mem_cons_of_mem _ he)
    have hsc1 := sc1.2
    have hl1 : ((zS τ 1).2 : Int) = (len : Int) := by rw [sc1.1]
    simp only [zrI, zrL]
    refine ⟨c1.1.1.obj (by decide) (by decide) rfl, m_undo m1.1 nn (fun b0 => ?_) (fun em Nm b0 υ gA fm => ?_)⟩
    · rw [b0] at a0; cases a0
    · rw [a0] at b0
      obtain ⟨e1, e2⟩ := List.cons.inj b0
      subst e1
      subst e2
      have g1 := fm
      have gz : Fz mfz τ υ := g1.mono (fun a j w => by omega)
      exact lfI rfl (next υ _ _ _ _ nn1 (CI.z gz c1) ⟨gA, g1.mco (fun a j w v => by omega) m1.2.1, g1.mrows (fun j v => by omega) m1.2.2⟩ (SC.zm gz sc1))
theorem lw_law {σ : ZM} {Q : ZQ} {S : Int → List Int} {N : List (Int × List Int)} {L : Int → LW} {R : Int → SQ} {scr : Int → Int} {len k1 k2 : Nat} {i : Int} (hr : ∀ j, -2147483648 ≤ scr j ∧ scr j ≤ 2147483647) (nn : NN N) (c : CI σ S N L R) (m : MM σ S N L R) (sc : SC σ scr len) (i0 : 0 ≤ i) (i6 : i + 6 < (len : Int)) (il : len ≤ 3584) (next : ∀ σ' S' N' L' R', NN N' → CI σ' S' N' L' R' → MM σ' S' N' L' R' → SC σ' scr len → WP m_Law__law 1338 [zr 1, zr 2, zr 192, zi i] [] σ' (k1, k2) Q) : WP m_Law__law 365 [zr 1, zr 2, zr 192, zi i] [] σ (k1, k2) Q := by
  have sp := c.pts
  have hsc := sc.2
  have hl : ((zS σ 1).2 : Int) = (len : Int) := by rw [sc.1]
  refine r_Law__law_365 ?_
  simp only [hsc]
  refine ⟨by omega, Or.inr ⟨trivial, by omega, by omega⟩, by omega, Or.inr ⟨trivial, by omega, by omega⟩, by omega, Or.inr ⟨trivial, by omega, by omega⟩, by omega, Or.inr ⟨trivial, by omega, by omega⟩, by omega, Or.inr ⟨trivial, by omega, by omega⟩, by omega, Or.inr ⟨trivial, by omega, by omega⟩, c.1.1.obj (by decide) (by decide) rfl, t_law c.1.1 c.2.1 (fun a0 => ?_) (fun a0 a1 a2 τ hC fr => ?_)⟩
  · have c1 := c
    have m1 := m
    have sc1 := sc
    have nn1 := nn
    have hsc1 := sc1.2
    have hl1 : ((zS σ 1).2 : Int) = (len : Int) := by rw [sc1.1]
    simp only [hsc1, zrI, zrL]
    refine ⟨by omega, Or.inr ⟨trivial, by omega, by omega⟩, by omega, Or.inr ⟨trivial, by omega, by omega⟩, by omega, Or.inr ⟨trivial, by omega, by omega⟩, by omega, Or.inr ⟨trivial, by omega, by omega⟩, by omega, Or.inr ⟨trivial, by omega, by omega⟩, by omega, Or.inr ⟨trivial, by omega, by omega⟩, c1.1.1.obj (by decide) (by decide) rfl, m_law c1.1.1 m1.2.1.1 (hr _) (hr _) (hr _) (hr _) (hr _) (hr _) (fun b0 => ?_) (fun b0 b1 b2 υ gL fm => ?_)⟩
    · exact lfI rfl (next _ _ _ _ _ nn1 c1 m1 sc1)
    · exact a0.elim (fun w => by omega) (fun w => w.elim (fun w => by omega) (fun w => absurd b2 w))
  · have fz : Fz cfr σ τ := fr.mono (fun a j w => by omega)
    have m1 := MM.z fz m
    have sc1 := SC.zc fz sc
    have f1 := fr
    have c1 : CI τ _ _ _ _ := ⟨f1.ai (fun a j w v => by omega) c.1, hC, f1.rowsI (fun a j w w2 v => by omega) c.2.2⟩
    have nn1 := nn
    have hsc1 := sc1.2
    have hl1 : ((zS τ 1).2 : Int) = (len : Int) := by rw [sc1.1]
    simp only [hsc1, zrI, zrL]
    refine ⟨by omega, Or.inr ⟨trivial, by omega, by omega⟩, by omega, Or.inr ⟨trivial, by omega, by omega⟩, by omega, Or.inr ⟨trivial, by omega, by omega⟩, by omega, Or.inr ⟨trivial, by omega, by omega⟩, by omega, Or.inr ⟨trivial, by omega, by omega⟩, by omega, Or.inr ⟨trivial, by omega, by omega⟩, c1.1.1.obj (by decide) (by decide) rfl, m_law c1.1.1 m1.2.1.1 (hr _) (hr _) (hr _) (hr _) (hr _) (hr _) (fun b0 => ?_) (fun b0 b1 b2 υ gL fm => ?_)⟩
    · exact b0.elim (fun w => by omega) (fun w => w.elim (fun w => by omega) (fun w => absurd a2 w))
    · have g1 : Fz (fun a _ => ((fun x => x = 193)) a) τ υ := fm.z (fun a j w => w)
      have gz : Fz mfz τ υ := g1.mono (fun a j w => by omega)
      exact lfI rfl (next υ _ _ _ _ nn1 (CI.z gz c1) ⟨g1.mi (fun a j w v => by omega) m1.1, ⟨gL, g1.mtabI (fun j w w2 v => by omega) (fun j v => by omega) (fun j v => by omega) m1.2.1.2.1, g1.mboxI (fun v => by omega) (fun j v => by omega) m1.2.1.2.2.1, g1.mtwoI (fun v => by omega) (fun j v => by omega) m1.2.1.2.2.2⟩, g1.mrows (fun j v => by omega) m1.2.2⟩ (SC.zm gz sc1))
