/-! the cases of the law, printed by mkcases.py -/
theorem lw_join {σ : ZM} {Q : ZQ} {S : Int → List Int} {N : List (Int × List Int)} {L : Int → LW} {R : Int → SQ} {scr : Int → Int} {len k1 k2 : Nat} {i : Int} (hr : ∀ j, -2147483648 ≤ scr j ∧ scr j ≤ 2147483647) (nn : NN N) (c : CI σ S N L R) (m : MM σ S N L R) (sc : SC σ scr len) (i0 : 0 ≤ i) (i6 : i + 6 < (len : Int)) (il : len ≤ 3584) (next : ∀ σ' S' N' L' R', NN N' → CI σ' S' N' L' R' → MM σ' S' N' L' R' → SC σ' scr len → WP m_Law__law 1338 [zr 1, zr 2, zr 192, zi i] [] σ' (k1, k2) Q) : WP m_Law__law 826 [zr 1, zr 2, zr 192, zi i] [] σ (k1, k2) Q := by
  have sp := c.pts
  have hsc := sc.2
  have hl : ((zS σ 1).2 : Int) = (len : Int) := by rw [sc.1]
  refine r_Law__law_826 ?_
  simp only [hsc]
  refine ⟨by omega, Or.inr ⟨trivial, by omega, by omega⟩, by omega, Or.inr ⟨trivial, by omega, by omega⟩, by omega, Or.inr ⟨trivial, by omega, by omega⟩, c.1.1.obj (by decide) (by decide) rfl, t_join c.1 (fun a0 => ?_) (fun a0 a1 => ?_) (fun a0 a1 a2 => ?_) (fun a0 a1 a2 τ hA fr => ?_)⟩
  · have c1 := c
    have m1 := m
    have sc1 := sc
    have nn1 := nn
    have hsc1 := sc1.2
    have hl1 : ((zS σ 1).2 : Int) = (len : Int) := by rw [sc1.1]
    simp only [hsc1, zrI, zrL]
    refine ⟨by omega, Or.inr ⟨trivial, by omega, by omega⟩, by omega, Or.inr ⟨trivial, by omega, by omega⟩, by omega, Or.inr ⟨trivial, by omega, by omega⟩, c1.1.1.obj (by decide) (by decide) rfl, m_join m1.1 sp (hr _) (hr _) (hr _) (fun b0 => ?_) (fun b0 b1 => ?_) (fun b0 b1 b2 => ?_) (fun b0 b1 b2 υ gA fm => ?_)⟩
    · exact lfI rfl (next _ _ _ _ _ nn1 c1 m1 sc1)
    · exact absurd a0 b0
    · exact absurd a0 b0
    · exact absurd a0 b0
  · have c1 := c
    have m1 := m
    have sc1 := sc
    have nn1 := nn
    have hsc1 := sc1.2
    have hl1 : ((zS σ 1).2 : Int) = (len : Int) := by rw [sc1.1]
    simp only [hsc1, zrI, zrL]
    refine ⟨by omega, Or.inr ⟨trivial, by omega, by omega⟩, by omega, Or.inr ⟨trivial, by omega, by omega⟩, by omega, Or.inr ⟨trivial, by omega, by omega⟩, c1.1.1.obj (by decide) (by decide) rfl, m_join m1.1 sp (hr _) (hr _) (hr _) (fun b0 => ?_) (fun b0 b1 => ?_) (fun b0 b1 b2 => ?_) (fun b0 b1 b2 υ gA fm => ?_)⟩
    · exact absurd b0 a0
    · exact lfI rfl (next _ _ _ _ _ nn1 c1 m1 sc1)
    · exact absurd a1 b1
    · exact absurd a1 b1
  · have c1 := c
    have m1 := m
    have sc1 := sc
    have nn1 := nn
    have hsc1 := sc1.2
    have hl1 : ((zS σ 1).2 : Int) = (len : Int) := by rw [sc1.1]
    simp only [hsc1, zrI, zrL]
    refine ⟨by omega, Or.inr ⟨trivial, by omega, by omega⟩, by omega, Or.inr ⟨trivial, by omega, by omega⟩, by omega, Or.inr ⟨trivial, by omega, by omega⟩, c1.1.1.obj (by decide) (by decide) rfl, m_join m1.1 sp (hr _) (hr _) (hr _) (fun b0 => ?_) (fun b0 b1 => ?_) (fun b0 b1 b2 => ?_) (fun b0 b1 b2 υ gA fm => ?_)⟩
    · exact absurd b0 a0
    · exact absurd b1 a1
    · exact lfI rfl (next _ _ _ _ _ nn1 c1 m1 sc1)
    · omega
  · have fz : Fz cfr σ τ := fr.z (fun a j w => by omega)
    have m1 := MM.z fz m
    have sc1 := SC.zc fz sc
    have f1 : Fz (fun a _ => (ccf) a) σ τ := fr.z (fun a j w => w)
    have c1 : CI τ _ _ _ _ := ⟨hA, f1.coI (fun a j w v => by omega) c.2.1, f1.rowsI (fun a j w w2 v => by omega) c.2.2⟩
    have nn1 : NN (actN S N (scr (i + 2))) := NN.act nn sp (by omega) (by omega)
    have hsc1 := sc1.2
    have hl1 : ((zS τ 1).2 : Int) = (len : Int) := by rw [sc1.1]
    simp only [hsc1, zrI, zrL]
    refine ⟨by omega, Or.inr ⟨trivial, by omega, by omega⟩, by omega, Or.inr ⟨trivial, by omega, by omega⟩, by omega, Or.inr ⟨trivial, by omega, by omega⟩, c1.1.1.obj (by decide) (by decide) rfl, m_join m1.1 sp (hr _) (hr _) (hr _) (fun b0 => ?_) (fun b0 b1 => ?_) (fun b0 b1 b2 => ?_) (fun b0 b1 b2 υ gA fm => ?_)⟩
    · exact absurd b0 a0
    · exact absurd b1 a1
    · omega
    · have g1 := fm
      have gz : Fz mfz τ υ := g1.mono (fun a j w => by omega)
      exact lfI rfl (next υ _ _ _ _ nn1 (CI.z gz c1) ⟨gA, g1.mco (fun a j w v => by omega) m1.2.1, g1.mrows (fun j v => by omega) m1.2.2⟩ (SC.zm gz sc1))
theorem lw_peel {σ : ZM} {Q : ZQ} {S : Int → List Int} {N : List (Int × List Int)} {L : Int → LW} {R : Int → SQ} {scr : Int → Int} {len k1 k2 : Nat} {i : Int} (hr : ∀ j, -2147483648 ≤ scr j ∧ scr j ≤ 2147483647) (nn : NN N) (c : CI σ S N L R) (m : MM σ S N L R) (sc : SC σ scr len) (i0 : 0 ≤ i) (i6 : i + 6 < (len : Int)) (il : len ≤ 3584) (next : ∀ σ' S' N' L' R', NN N' → CI σ' S' N' L' R' → MM σ' S' N' L' R' → SC σ' scr len → WP m_Law__law 1338 [zr 1, zr 2, zr 192, zi i] [] σ' (k1, k2) Q) : WP m_Law__law 869 [zr 1, zr 2, zr 192, zi i] [] σ (k1, k2) Q := by
  have sp := c.pts
  have hsc := sc.2
  have hl : ((zS σ 1).2 : Int) = (len : Int) := by rw [sc.1]
  refine r_Law__law_869 ?_
  simp only [hsc]
  refine ⟨by omega, Or.inr ⟨trivial, by omega, by omega⟩, by omega, Or.inr ⟨trivial, by omega, by omega⟩, c.1.1.obj (by decide) (by decide) rfl, t_peel c.1 (fun a0 => ?_) (fun a0 a1 a2 a3 a4 τ hA fr => ?_) (fun a0 a1 a2 a3 pc a4 a5 τ hA fr => ?_)⟩
  · have c1 := c
    have m1 := m
    have sc1 := sc
    have nn1 := nn
    have hsc1 := sc1.2
    have hl1 : ((zS σ 1).2 : Int) = (len : Int) := by rw [sc1.1]
    simp only [hsc1, zrI, zrL]
    refine ⟨by omega, Or.inr ⟨trivial, by omega, by omega⟩, by omega, Or.inr ⟨trivial, by omega, by omega⟩, c1.1.1.obj (by decide) (by decide) rfl, m_peel m1.1 sp (hr _) (hr _) (fun b0 => ?_) (fun b0 b1 b2 b3 b4 υ gA fm => ?_) (fun b0 b1 b2 b3 pm b4 b5 υ gA fm => ?_)⟩
    · exact lfI rfl (next _ _ _ _ _ nn1 c1 m1 sc1)
    · omega
    · omega
  · have fz : Fz cfr σ τ := fr.z (fun a j w => by omega)
    have m1 := MM.z fz m
    have sc1 := SC.zc fz sc
    have f1 : Fz (fun a _ => (ccf) a) σ τ := fr.z (fun a j w => w)
    have c1 : CI τ _ _ _ _ := ⟨hA, f1.coI (fun a j w v => by omega) c.2.1, f1.rowsI (fun a j w w2 v => by omega) c.2.2⟩
    have nn1 := nn
    have hsc1 := sc1.2
    have hl1 : ((zS τ 1).2 : Int) = (len : Int) := by rw [sc1.1]
    simp only [hsc1, zrI, zrL]
    refine ⟨by omega, Or.inr ⟨trivial, by omega, by omega⟩, by omega, Or.inr ⟨trivial, by omega, by omega⟩, c1.1.1.obj (by decide) (by decide) rfl, m_peel m1.1 sp (hr _) (hr _) (fun b0 => ?_) (fun b0 b1 b2 b3 b4 υ gA fm => ?_) (fun b0 b1 b2 b3 pm b4 b5 υ gA fm => ?_)⟩
    · omega
    · have g1 := fm
      have gz : Fz mfz τ υ := g1.mono (fun a j w => by omega)
      exact lfI rfl (next υ _ _ _ _ nn1 (CI.z gz c1) ⟨gA, g1.mco (fun a j w v => by omega) m1.2.1, g1.mrows (fun j v => by omega) m1.2.2⟩ (SC.zm gz sc1))
    · exact (NoB.no a4 b5).elim
  · have fz : Fz cfr σ τ := fr.z (fun a j w => by omega)
    have m1 := MM.z fz m
    have sc1 := SC.zc fz sc
    have f1 : Fz (fun a _ => (ccf) a) σ τ := fr.z (fun a j w => w)
    have c1 : CI τ _ _ _ _ := ⟨hA, f1.coI (fun a j w v => by omega) c.2.1, f1.rowsI (fun a j w w2 v => by omega) c.2.2⟩
    have nn1 : NN (actN S N (scr (i + 2))) := NN.act nn sp (by omega) (by omega)
    have hsc1 := sc1.2
    have hl1 : ((zS τ 1).2 : Int) = (len : Int) := by rw [sc1.1]
    simp only [hsc1, zrI, zrL]
    refine ⟨by omega, Or.inr ⟨trivial, by omega, by omega⟩, by omega, Or.inr ⟨trivial, by omega, by omega⟩, c1.1.1.obj (by decide) (by decide) rfl, m_peel m1.1 sp (hr _) (hr _) (fun b0 => ?_) (fun b0 b1 b2 b3 b4 υ gA fm => ?_) (fun b0 b1 b2 b3 pm b4 b5 υ gA fm => ?_)⟩
    · omega
    · exact (NoB.no b4 a5).elim
    · have ev : pm = pc := PkB.uniq b5 a5
      subst ev
      have g1 := fm
      have gz : Fz mfz τ υ := g1.mono (fun a j w => by omega)
      exact lfI rfl (next υ _ _ _ _ nn1 (CI.z gz c1) ⟨gA, g1.mco (fun a j w v => by omega) m1.2.1, g1.mrows (fun j v => by omega) m1.2.2⟩ (SC.zm gz sc1))
theorem lw_fillings {σ : ZM} {Q : ZQ} {S : Int → List Int} {N : List (Int × List Int)} {L : Int → LW} {R : Int → SQ} {scr : Int → Int} {len k1 k2 : Nat} {i : Int} (hr : ∀ j, -2147483648 ≤ scr j ∧ scr j ≤ 2147483647) (nn : NN N) (c : CI σ S N L R) (m : MM σ S N L R) (sc : SC σ scr len) (i0 : 0 ≤ i) (i6 : i + 6 < (len : Int)) (il : len ≤ 3584) (next : ∀ σ' S' N' L' R', NN N' → CI σ' S' N' L' R' → MM σ' S' N' L' R' → SC σ' scr len → WP m_Law__law 1338 [zr 1, zr 2, zr 192, zi i] [] σ' (k1, k2) Q) : WP m_Law__law 902 [zr 1, zr 2, zr 192, zi i] [] σ (k1, k2) Q := by
  have sp := c.pts
  have hsc := sc.2
  have hl : ((zS σ 1).2 : Int) = (len : Int) := by rw [sc.1]
  refine r_Law__law_902 ?_
  simp only [hsc]
  refine ⟨by omega, Or.inr ⟨trivial, by omega, by omega⟩, c.1.1.obj (by decide) (by decide) rfl, t_fillings c.1 (fun a0 => ?_) (fun a0 a1 a2 τ hA fr => ?_)⟩
  · have c1 := c
    have m1 := m
    have sc1 := sc
    have nn1 := nn
    have hsc1 := sc1.2
    have hl1 : ((zS σ 1).2 : Int) = (len : Int) := by rw [sc1.1]
    simp only [hsc1, zrI, zrL]
    refine ⟨by omega, Or.inr ⟨trivial, by omega, by omega⟩, c1.1.1.obj (by decide) (by decide) rfl, m_fillings m1.1 sp (hr _) (fun b0 => ?_) (fun b0 b1 b2 υ gA fm => ?_)⟩
    · exact lfL rfl (next _ _ _ _ _ nn1 c1 m1 sc1)
    · omega
  · have fz : Fz cfr σ τ := fr.z (fun a j w => by omega)
    have m1 := MM.z fz m
    have sc1 := SC.zc fz sc
    have f1 : Fz (fun a _ => (fwf) a) σ τ := fr.z (fun a j w => w)
    have c1 : CI τ _ _ _ _ := ⟨hA, f1.coI (fun a j w v => by omega) c.2.1, f1.rowsI (fun a j w w2 v => by omega) c.2.2⟩
    have nn1 := nn
    have hsc1 := sc1.2
    have hl1 : ((zS τ 1).2 : Int) = (len : Int) := by rw [sc1.1]
    simp only [hsc1, zrI, zrL]
    refine ⟨by omega, Or.inr ⟨trivial, by omega, by omega⟩, c1.1.1.obj (by decide) (by decide) rfl, m_fillings m1.1 sp (hr _) (fun b0 => ?_) (fun b0 b1 b2 υ gA fm => ?_)⟩
    · omega
    · have g1 := fm
      have gz : Fz mfz τ υ := g1.mono (fun a j w => by omega)
      exact lfL rfl (next υ _ _ _ _ nn1 (CI.z gz c1) ⟨gA, g1.mco (fun a j w v => by omega) m1.2.1, g1.mrows (fun j v => by omega) m1.2.2⟩ (SC.zm gz sc1))
theorem lw_filling {σ : ZM} {Q : ZQ} {S : Int → List Int} {N : List (Int × List Int)} {L : Int → LW} {R : Int → SQ} {scr : Int → Int} {len k1 k2 : Nat} {i : Int} (hr : ∀ j, -2147483648 ≤ scr j ∧ scr j ≤ 2147483647) (nn : NN N) (c : CI σ S N L R) (m : MM σ S N L R) (sc : SC σ scr len) (i0 : 0 ≤ i) (i6 : i + 6 < (len : Int)) (il : len ≤ 3584) (next : ∀ σ' S' N' L' R', NN N' → CI σ' S' N' L' R' → MM σ' S' N' L' R' → SC σ' scr len → WP m_Law__law 1338 [zr 1, zr 2, zr 192, zi i] [] σ' (k1, k2) Q) : WP m_Law__law 926 [zr 1, zr 2, zr 192, zi i] [] σ (k1, k2) Q := by
  have sp := c.pts
  have hsc := sc.2
  have hl : ((zS σ 1).2 : Int) = (len : Int) := by rw [sc.1]
  refine r_Law__law_926 ?_
  simp only [hsc]
  refine ⟨by omega, Or.inr ⟨trivial, by omega, by omega⟩, by omega, Or.inr ⟨trivial, by omega, by omega⟩, by omega, Or.inr ⟨trivial, by omega, by omega⟩, by omega, Or.inr ⟨trivial, by omega, by omega⟩, c.1.1.obj (by decide) (by decide) rfl, t_filling c.1 (fun a0 => ?_) (fun a0 a1 a2 a3 a4 a5 τ hA fr => ?_) (fun a0 a1 a2 a3 a4 a5 a6 rc a7 τ hA fr => ?_)⟩
  · have c1 := c
    have m1 := m
    have sc1 := sc
    have nn1 := nn
    have hsc1 := sc1.2
    have hl1 : ((zS σ 1).2 : Int) = (len : Int) := by rw [sc1.1]
    simp only [hsc1, zrI, zrL]
    refine ⟨by omega, Or.inr ⟨trivial, by omega, by omega⟩, by omega, Or.inr ⟨trivial, by omega, by omega⟩, by omega, Or.inr ⟨trivial, by omega, by omega⟩, by omega, Or.inr ⟨trivial, by omega, by omega⟩, c1.1.1.obj (by decide) (by decide) rfl, m_filling m1.1 sp (hr _) (hr _) (fun b0 => ?_) (fun b0 b1 b2 b3 b4 b5 υ gA fm => ?_) (fun b0 b1 b2 b3 b4 b5 b6 rm b7 υ gA fm => ?_)⟩
    · exact lfI rfl (next _ _ _ _ _ nn1 c1 m1 sc1)
    · omega
    · omega
  · have fz : Fz cfr σ τ := fr.z (fun a j w => by omega)
    have m1 := MM.z fz m
    have sc1 := SC.zc fz sc
    have f1 : Fz (fun a _ => (fwf) a) σ τ := fr.z (fun a j w => w)
    have c1 : CI τ _ _ _ _ := ⟨hA, f1.coI (fun a j w v => by omega) c.2.1, f1.rowsI (fun a j w w2 v => by omega) c.2.2⟩
    have nn1 := nn
    have hsc1 := sc1.2
    have hl1 : ((zS τ 1).2 : Int) = (len : Int) := by rw [sc1.1]
    simp only [hsc1, zrI, zrL]
    refine ⟨by omega, Or.inr ⟨trivial, by omega, by omega⟩, by omega, Or.inr ⟨trivial, by omega, by omega⟩, by omega, Or.inr ⟨trivial, by omega, by omega⟩, by omega, Or.inr ⟨trivial, by omega, by omega⟩, c1.1.1.obj (by decide) (by decide) rfl, m_filling m1.1 sp (hr _) (hr _) (fun b0 => ?_) (fun b0 b1 b2 b3 b4 b5 υ gA fm => ?_) (fun b0 b1 b2 b3 b4 b5 b6 rm b7 υ gA fm => ?_)⟩
    · omega
    · have g1 := fm
      have gz : Fz mfz τ υ := g1.mono (fun a j w => by omega)
      exact lfI rfl (next υ _ _ _ _ nn1 (CI.z gz c1) ⟨gA, g1.mco (fun a j w v => by omega) m1.2.1, g1.mrows (fun j v => by omega) m1.2.2⟩ (SC.zm gz sc1))
    · omega
  · have fz : Fz cfr σ τ := fr.z (fun a j w => by omega)
    have m1 := MM.z fz m
    have sc1 := SC.zc fz sc
    have f1 : Fz (fun a _ => (fwf) a) σ τ := fr.z (fun a j w => w)
    have c1 : CI τ _ _ _ _ := ⟨hA, f1.coI (fun a j w v => by omega) c.2.1, f1.rowsI (fun a j w w2 v => by omega) c.2.2⟩
    have nn1 := nn
    have hsc1 := sc1.2
    have hl1 : ((zS τ 1).2 : Int) = (len : Int) := by rw [sc1.1]
    simp only [hsc1, zrI, zrL]
    refine ⟨by omega, Or.inr ⟨trivial, by omega, by omega⟩, by omega, Or.inr ⟨trivial, by omega, by omega⟩, by omega, Or.inr ⟨trivial, by omega, by omega⟩, by omega, Or.inr ⟨trivial, by omega, by omega⟩, c1.1.1.obj (by decide) (by decide) rfl, m_filling m1.1 sp (hr _) (hr _) (fun b0 => ?_) (fun b0 b1 b2 b3 b4 b5 υ gA fm => ?_) (fun b0 b1 b2 b3 b4 b5 b6 rm b7 υ gA fm => ?_)⟩
    · omega
    · omega
    · have ev : rm = rc := FlR.uniq _ b7 a7
      subst ev
      have g1 := fm
      have gz : Fz mfz τ υ := g1.mono (fun a j w => by omega)
      exact lfI rfl (next υ _ _ _ _ nn1 (CI.z gz c1) ⟨gA, g1.mco (fun a j w v => by omega) m1.2.1, g1.mrows (fun j v => by omega) m1.2.2⟩ (SC.zm gz sc1))
theorem lw_heap {σ : ZM} {Q : ZQ} {S : Int → List Int} {N : List (Int × List Int)} {L : Int → LW} {R : Int → SQ} {scr : Int → Int} {len k1 k2 : Nat} {i : Int} (hr : ∀ j, -2147483648 ≤ scr j ∧ scr j ≤ 2147483647) (nn : NN N) (c : CI σ S N L R) (m : MM σ S N L R) (sc : SC σ scr len) (i0 : 0 ≤ i) (i6 : i + 6 < (len : Int)) (il : len ≤ 3584) (next : ∀ σ' S' N' L' R', NN N' → CI σ' S' N' L' R' → MM σ' S' N' L' R' → SC σ' scr len → WP m_Law__law 1338 [zr 1, zr 2, zr 192, zi i] [] σ' (k1, k2) Q) : WP m_Law__law 999 [zr 1, zr 2, zr 192, zi i] [] σ (k1, k2) Q := by
  have sp := c.pts
  have hsc := sc.2
  have hl : ((zS σ 1).2 : Int) = (len : Int) := by rw [sc.1]
  refine r_Law__law_999 ?_
  simp only [hsc]
  refine ⟨by omega, Or.inr ⟨trivial, by omega, by omega⟩, by omega, Or.inr ⟨trivial, by omega, by omega⟩, by omega, Or.inr ⟨trivial, by omega, by omega⟩, by omega, Or.inr ⟨trivial, by omega, by omega⟩, c.1.1.obj (by decide) (by decide) rfl, t_heap c.1.1 c.2.1 (hr _) (fun a0 => ?_) (fun a0 a1 a2 a3 a4 a5 a6 a7 τ hC fr => ?_)⟩
  · have c1 := c
    have m1 := m
    have sc1 := sc
    have nn1 := nn
    have hsc1 := sc1.2
    have hl1 : ((zS σ 1).2 : Int) = (len : Int) := by rw [sc1.1]
    simp only [hsc1, zrI, zrL]
    refine ⟨by omega, Or.inr ⟨trivial, by omega, by omega⟩, by omega, Or.inr ⟨trivial, by omega, by omega⟩, by omega, Or.inr ⟨trivial, by omega, by omega⟩, by omega, Or.inr ⟨trivial, by omega, by omega⟩, c1.1.1.obj (by decide) (by decide) rfl, m_heap c1.1.1 m1.2.1 (hr _) (hr _) (hr _) (hr _) (fun b0 => ?_) (fun b0 b1 b2 b3 b4 b5 b6 b7 υ gC fm => ?_)⟩
    · exact lfL rfl (next _ _ _ _ _ nn1 c1 m1 sc1)
    · omega
  · have fz : Fz cfr σ τ := fr.mono (fun a j w => by omega)
    have m1 := MM.z fz m
    have sc1 := SC.zc fz sc
    have f1 := fr
    have c1 : CI τ _ _ _ _ := ⟨f1.ai (fun a j w v => by omega) c.1, hC, f1.rowsI (fun a j w w2 v => by omega) c.2.2⟩
    have nn1 := nn
    have hsc1 := sc1.2
    have hl1 : ((zS τ 1).2 : Int) = (len : Int) := by rw [sc1.1]
    simp only [hsc1, zrI, zrL]
    refine ⟨by omega, Or.inr ⟨trivial, by omega, by omega⟩, by omega, Or.inr ⟨trivial, by omega, by omega⟩, by omega, Or.inr ⟨trivial, by omega, by omega⟩, by omega, Or.inr ⟨trivial, by omega, by omega⟩, c1.1.1.obj (by decide) (by decide) rfl, m_heap c1.1.1 m1.2.1 (hr _) (hr _) (hr _) (hr _) (fun b0 => ?_) (fun b0 b1 b2 b3 b4 b5 b6 b7 υ gC fm => ?_)⟩
    · omega
    · have g1 := fm
      have gz : Fz mfz τ υ := g1.mono (fun a j w => by omega)
      exact lfL rfl (next υ _ _ _ _ nn1 (CI.z gz c1) ⟨g1.mi (fun a j w v => by omega) m1.1, gC, g1.mrows (fun j v => by omega) m1.2.2⟩ (SC.zm gz sc1))
theorem lw_one {σ : ZM} {Q : ZQ} {S : Int → List Int} {N : List (Int × List Int)} {L : Int → LW} {R : Int → SQ} {scr : Int → Int} {len k1 k2 : Nat} {i : Int} (hr : ∀ j, -2147483648 ≤ scr j ∧ scr j ≤ 2147483647) (nn : NN N) (c : CI σ S N L R) (m : MM σ S N L R) (sc : SC σ scr len) (i0 : 0 ≤ i) (i6 : i + 6 < (len : Int)) (il : len ≤ 3584) (next : ∀ σ' S' N' L' R', NN N' → CI σ' S' N' L' R' → MM σ' S' N' L' R' → SC σ' scr len → WP m_Law__law 1338 [zr 1, zr 2, zr 192, zi i] [] σ' (k1, k2) Q) : WP m_Law__law 1053 [zr 1, zr 2, zr 192, zi i] [] σ (k1, k2) Q := by
  have sp := c.pts
  have hsc := sc.2
  have hl : ((zS σ 1).2 : Int) = (len : Int) := by rw [sc.1]
  refine r_Law__law_1053 ?_
  simp only [hsc]
  refine ⟨by omega, Or.inr ⟨trivial, by omega, by omega⟩, c.1.1.obj (by decide) (by decide) rfl, t_one c.1.1 c.2.2 (fun a0 => ?_) (fun a0 a1 τ hR fr => ?_)⟩
  · have c1 := c
    have m1 := m
    have sc1 := sc
    have nn1 := nn
    have hsc1 := sc1.2
    have hl1 : ((zS σ 1).2 : Int) = (len : Int) := by rw [sc1.1]
    simp only [hsc1, zrI, zrL]
    refine ⟨by omega, Or.inr ⟨trivial, by omega, by omega⟩, c1.1.1.obj (by decide) (by decide) rfl, m_one c1.1.1 m1.2.2 (hr _) (fun b0 => ?_) (fun b0 b1 υ gR fm => ?_)⟩
    · exact lfI rfl (next _ _ _ _ _ nn1 c1 m1 sc1)
    · omega
  · have fz : Fz cfr σ τ := fr.z (fun a j w => by omega)
    have m1 := MM.z fz m
    have sc1 := SC.zc fz sc
    have f1 : Fz (fun a _ => (rwf) a) σ τ := fr.z (fun a j w => w)
    have c1 : CI τ _ _ _ _ := ⟨f1.ai (fun a j w v => by omega) c.1, f1.coI (fun a j w v => by omega) c.2.1, hR⟩
    have nn1 := nn
    have hsc1 := sc1.2
    have hl1 : ((zS τ 1).2 : Int) = (len : Int) := by rw [sc1.1]
    simp only [hsc1, zrI, zrL]
    refine ⟨by omega, Or.inr ⟨trivial, by omega, by omega⟩, c1.1.1.obj (by decide) (by decide) rfl, m_one c1.1.1 m1.2.2 (hr _) (fun b0 => ?_) (fun b0 b1 υ gR fm => ?_)⟩
    · omega
    · have g1 := fm
      have gz : Fz mfz τ υ := g1.mono (fun a j w => by omega)
      exact lfI rfl (next υ _ _ _ _ nn1 (CI.z gz c1) ⟨g1.mi (fun a j w v => by omega) m1.1, g1.mco (fun a j w v => by omega) m1.2.1, gR⟩ (SC.zm gz sc1))
