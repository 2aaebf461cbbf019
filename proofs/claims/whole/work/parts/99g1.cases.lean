/-! the cases of the law, printed by mkcases.py -/
theorem lw_clash {σ : ZM} {Q : ZQ} {S : Int → List Int} {N : List (Int × List Int)} {L : Int → LW} {R : Int → SQ} {scr : Int → Int} {len k1 k2 : Nat} {i : Int} (hr : ∀ j, -2147483648 ≤ scr j ∧ scr j ≤ 2147483647) (nn : NN N) (c : CI σ S N L R) (m : MM σ S N L R) (sc : SC σ scr len) (i0 : 0 ≤ i) (i6 : i + 6 < (len : Int)) (il : len ≤ 3584) (next : ∀ σ' S' N' L' R', NN N' → CI σ' S' N' L' R' → MM σ' S' N' L' R' → SC σ' scr len → WP m_Law__law 1338 [zr 1, zr 2, zr 192, zi i] [] σ' (k1, k2) Q) : WP m_Law__law 440 [zr 1, zr 2, zr 192, zi i] [] σ (k1, k2) Q := by
  have sp := c.pts
  have hsc := sc.2
  have hl : ((zS σ 1).2 : Int) = (len : Int) := by rw [sc.1]
  refine r_Law__law_440 ?_
  simp only [hsc]
  refine ⟨by omega, Or.inr ⟨trivial, by omega, by omega⟩, by omega, Or.inr ⟨trivial, by omega, by omega⟩, c.1.1.obj (by decide) (by decide) rfl, t_clash c.1 c.2.1.1 (fun a0 => ?_) (fun a0 a1 a2 a3 rc τ a4 fr => ?_)⟩
  · have c1 := c
    have m1 := m
    have sc1 := sc
    have nn1 := nn
    have hsc1 := sc1.2
    have hl1 : ((zS σ 1).2 : Int) = (len : Int) := by rw [sc1.1]
    simp only [hsc1, zrI, zrL]
    refine ⟨by omega, Or.inr ⟨trivial, by omega, by omega⟩, by omega, Or.inr ⟨trivial, by omega, by omega⟩, c1.1.1.obj (by decide) (by decide) rfl, m_clash m1.1 sp m1.2.1.1 (hr _) (hr _) (fun b0 => ?_) (fun b0 b1 b2 b3 rm b4 => ?_)⟩
    · exact lfI rfl (next _ _ _ _ _ nn1 c1 m1 sc1)
    · omega
  · have fz : Fz cfr σ τ := fr.z (fun a j w => by omega)
    have m1 := MM.z fz m
    have sc1 := SC.zc fz sc
    have f1 : Fz (fun a _ => ((two 135)) a) σ τ := fr.z (fun a j w => w)
    have c1 : CI τ _ _ _ _ := ⟨f1.ai (fun a j w v => by omega) c.1, f1.coI (fun a j w v => by omega) c.2.1, f1.rowsI (fun a j w w2 v => by omega) c.2.2⟩
    have nn1 := nn
    have hsc1 := sc1.2
    have hl1 : ((zS τ 1).2 : Int) = (len : Int) := by rw [sc1.1]
    simp only [hsc1, zrI, zrL]
    refine ⟨by omega, Or.inr ⟨trivial, by omega, by omega⟩, by omega, Or.inr ⟨trivial, by omega, by omega⟩, c1.1.1.obj (by decide) (by decide) rfl, m_clash m1.1 sp m1.2.1.1 (hr _) (hr _) (fun b0 => ?_) (fun b0 b1 b2 b3 rm b4 => ?_)⟩
    · omega
    · have ev : rm = rc := ClashR.uniq b4 a4
      subst ev
      exact lfI rfl (next _ _ _ _ _ nn1 c1 m1 sc1)
theorem lw_count {σ : ZM} {Q : ZQ} {S : Int → List Int} {N : List (Int × List Int)} {L : Int → LW} {R : Int → SQ} {scr : Int → Int} {len k1 k2 : Nat} {i : Int} (hr : ∀ j, -2147483648 ≤ scr j ∧ scr j ≤ 2147483647) (nn : NN N) (c : CI σ S N L R) (m : MM σ S N L R) (sc : SC σ scr len) (i0 : 0 ≤ i) (i6 : i + 6 < (len : Int)) (il : len ≤ 3584) (next : ∀ σ' S' N' L' R', NN N' → CI σ' S' N' L' R' → MM σ' S' N' L' R' → SC σ' scr len → WP m_Law__law 1338 [zr 1, zr 2, zr 192, zi i] [] σ' (k1, k2) Q) : WP m_Law__law 473 [zr 1, zr 2, zr 192, zi i] [] σ (k1, k2) Q := by
  have sp := c.pts
  have hsc := sc.2
  have hl : ((zS σ 1).2 : Int) = (len : Int) := by rw [sc.1]
  refine r_Law__law_473 ?_
  simp only [hsc]
  refine ⟨by omega, Or.inr ⟨trivial, by omega, by omega⟩, by omega, Or.inr ⟨trivial, by omega, by omega⟩, c.1.1.obj (by decide) (by decide) rfl, t_count c.1.1 c.2.1 (fun a0 => ?_) (fun a0 a1 a2 a3 τ hC fr => ?_)⟩
  · have c1 := c
    have m1 := m
    have sc1 := sc
    have nn1 := nn
    have hsc1 := sc1.2
    have hl1 : ((zS σ 1).2 : Int) = (len : Int) := by rw [sc1.1]
    simp only [hsc1, zrI, zrL]
    refine ⟨by omega, Or.inr ⟨trivial, by omega, by omega⟩, by omega, Or.inr ⟨trivial, by omega, by omega⟩, c1.1.1.obj (by decide) (by decide) rfl, m_count c1.1.1 m1.2.1 (hr _) (hr _) (fun b0 => ?_) (fun b0 b1 b2 b3 υ gC fm => ?_)⟩
    · exact lfL rfl (next _ _ _ _ _ nn1 c1 m1 sc1)
    · omega
  · have fz : Fz cfr σ τ := fr.mono (fun a j w => by omega)
    have m1 := MM.z fz m
    have sc1 := SC.zc fz sc
    have f1 := fr
    have c1 : CI τ _ _ _ _ := ⟨f1.ai (fun a j w v => by omega) c.1, hC, f1.rowsI (fun a j w w2 v => by omega) c.2.2⟩
    have nn1 := nn
    have hsc1 := sc1.2
    have hl1 : ((zS τ 1).2 : Int) = (len : Int) := by rw [sc1.1]
    simp only [hsc1, zrI, zrL]
    refine ⟨by omega, Or.inr ⟨trivial, by omega, by omega⟩, by omega, Or.inr ⟨trivial, by omega, by omega⟩, c1.1.1.obj (by decide) (by decide) rfl, m_count c1.1.1 m1.2.1 (hr _) (hr _) (fun b0 => ?_) (fun b0 b1 b2 b3 υ gC fm => ?_)⟩
    · omega
    · have g1 := fm
      have gz : Fz mfz τ υ := g1.mono (fun a j w => by omega)
      exact lfL rfl (next υ _ _ _ _ nn1 (CI.z gz c1) ⟨g1.mi (fun a j w v => by omega) m1.1, gC, g1.mrows (fun j v => by omega) m1.2.2⟩ (SC.zm gz sc1))
theorem lw_rank {σ : ZM} {Q : ZQ} {S : Int → List Int} {N : List (Int × List Int)} {L : Int → LW} {R : Int → SQ} {scr : Int → Int} {len k1 k2 : Nat} {i : Int} (hr : ∀ j, -2147483648 ≤ scr j ∧ scr j ≤ 2147483647) (nn : NN N) (c : CI σ S N L R) (m : MM σ S N L R) (sc : SC σ scr len) (i0 : 0 ≤ i) (i6 : i + 6 < (len : Int)) (il : len ≤ 3584) (next : ∀ σ' S' N' L' R', NN N' → CI σ' S' N' L' R' → MM σ' S' N' L' R' → SC σ' scr len → WP m_Law__law 1338 [zr 1, zr 2, zr 192, zi i] [] σ' (k1, k2) Q) : WP m_Law__law 507 [zr 1, zr 2, zr 192, zi i] [] σ (k1, k2) Q := by
  have sp := c.pts
  have hsc := sc.2
  have hl : ((zS σ 1).2 : Int) = (len : Int) := by rw [sc.1]
  refine r_Law__law_507 ?_
  simp only [hsc]
  refine ⟨by omega, Or.inr ⟨trivial, by omega, by omega⟩, by omega, Or.inr ⟨trivial, by omega, by omega⟩, c.1.1.obj (by decide) (by decide) rfl, t_rank c.1 c.2.1 (fun a0 => ?_) (fun a0 a1 a2 a3 a4 a5 rc a6 a7 τ hC fr => ?_) (fun a0 a1 a2 a3 a4 a5 a6 τ hC fr => ?_)⟩
  · have c1 := c
    have m1 := m
    have sc1 := sc
    have nn1 := nn
    have hsc1 := sc1.2
    have hl1 : ((zS σ 1).2 : Int) = (len : Int) := by rw [sc1.1]
    simp only [hsc1, zrI, zrL]
    refine ⟨by omega, Or.inr ⟨trivial, by omega, by omega⟩, by omega, Or.inr ⟨trivial, by omega, by omega⟩, c1.1.1.obj (by decide) (by decide) rfl, m_rank m1.1 sp m1.2.1 (hr _) (hr _) (fun b0 => ?_) (fun b0 b1 b2 b3 b4 b5 rm b6 b7 => ?_) (fun b0 b1 b2 b3 b4 b5 b6 υ gC fm => ?_)⟩
    · exact lfL rfl (next _ _ _ _ _ nn1 c1 m1 sc1)
    · omega
    · omega
  · have fz : Fz cfr σ τ := fr.mono (fun a j w => by omega)
    have m1 := MM.z fz m
    have sc1 := SC.zc fz sc
    have f1 := fr
    have c1 : CI τ _ _ _ _ := ⟨f1.ai (fun a j w v => by omega) c.1, hC, f1.rowsI (fun a j w w2 v => by omega) c.2.2⟩
    have nn1 := nn
    have hsc1 := sc1.2
    have hl1 : ((zS τ 1).2 : Int) = (len : Int) := by rw [sc1.1]
    simp only [hsc1, zrI, zrL]
    refine ⟨by omega, Or.inr ⟨trivial, by omega, by omega⟩, by omega, Or.inr ⟨trivial, by omega, by omega⟩, c1.1.1.obj (by decide) (by decide) rfl, m_rank m1.1 sp m1.2.1 (hr _) (hr _) (fun b0 => ?_) (fun b0 b1 b2 b3 b4 b5 rm b6 b7 => ?_) (fun b0 b1 b2 b3 b4 b5 b6 υ gC fm => ?_)⟩
    · omega
    · exact lfL rfl (next _ _ _ _ _ nn1 c1 m1 sc1)
    · exact absurd (ClashR.uniq a6 b6) a7
  · have fz : Fz cfr σ τ := fr.mono (fun a j w => by omega)
    have m1 := MM.z fz m
    have sc1 := SC.zc fz sc
    have f1 := fr
    have c1 : CI τ _ _ _ _ := ⟨f1.ai (fun a j w v => by omega) c.1, hC, f1.rowsI (fun a j w w2 v => by omega) c.2.2⟩
    have nn1 := nn
    have hsc1 := sc1.2
    have hl1 : ((zS τ 1).2 : Int) = (len : Int) := by rw [sc1.1]
    simp only [hsc1, zrI, zrL]
    refine ⟨by omega, Or.inr ⟨trivial, by omega, by omega⟩, by omega, Or.inr ⟨trivial, by omega, by omega⟩, c1.1.1.obj (by decide) (by decide) rfl, m_rank m1.1 sp m1.2.1 (hr _) (hr _) (fun b0 => ?_) (fun b0 b1 b2 b3 b4 b5 rm b6 b7 => ?_) (fun b0 b1 b2 b3 b4 b5 b6 υ gC fm => ?_)⟩
    · omega
    · exact absurd (ClashR.uniq b6 a6) b7
    · have g1 := fm
      have gz : Fz mfz τ υ := g1.mono (fun a j w => by omega)
      exact lfL rfl (next υ _ _ _ _ nn1 (CI.z gz c1) ⟨g1.mi (fun a j w v => by omega) m1.1, gC, g1.mrows (fun j v => by omega) m1.2.2⟩ (SC.zm gz sc1))
theorem lw_tell {σ : ZM} {Q : ZQ} {S : Int → List Int} {N : List (Int × List Int)} {L : Int → LW} {R : Int → SQ} {scr : Int → Int} {len k1 k2 : Nat} {i : Int} (hr : ∀ j, -2147483648 ≤ scr j ∧ scr j ≤ 2147483647) (nn : NN N) (c : CI σ S N L R) (m : MM σ S N L R) (sc : SC σ scr len) (i0 : 0 ≤ i) (i6 : i + 6 < (len : Int)) (il : len ≤ 3584) (next : ∀ σ' S' N' L' R', NN N' → CI σ' S' N' L' R' → MM σ' S' N' L' R' → SC σ' scr len → WP m_Law__law 1338 [zr 1, zr 2, zr 192, zi i] [] σ' (k1, k2) Q) : WP m_Law__law 541 [zr 1, zr 2, zr 192, zi i] [] σ (k1, k2) Q := by
  have sp := c.pts
  have hsc := sc.2
  have hl : ((zS σ 1).2 : Int) = (len : Int) := by rw [sc.1]
  refine r_Law__law_541 ?_
  simp only [hsc]
  refine ⟨by omega, Or.inr ⟨trivial, by omega, by omega⟩, by omega, Or.inr ⟨trivial, by omega, by omega⟩, by omega, Or.inr ⟨trivial, by omega, by omega⟩, by omega, Or.inr ⟨trivial, by omega, by omega⟩, by omega, Or.inr ⟨trivial, by omega, by omega⟩, c.1.1.obj (by decide) (by decide) rfl, t_tell c.1 c.2.1 (fun a0 τ hC fr => ?_) (fun a0 a1 a2 a3 a4 a5 a6 a7 a8 τ hA hC fr => ?_)⟩
  · have fz : Fz cfr σ τ := fr.mono (fun a j w => by omega)
    have m1 := MM.z fz m
    have sc1 := SC.zc fz sc
    have f1 := fr
    have c1 : CI τ _ _ _ _ := ⟨f1.ai (fun a j w v => by omega) c.1, hC, f1.rowsI (fun a j w w2 v => by omega) c.2.2⟩
    have nn1 := nn
    have hsc1 := sc1.2
    have hl1 : ((zS τ 1).2 : Int) = (len : Int) := by rw [sc1.1]
    simp only [hsc1, zrI, zrL]
    refine ⟨by omega, Or.inr ⟨trivial, by omega, by omega⟩, by omega, Or.inr ⟨trivial, by omega, by omega⟩, by omega, Or.inr ⟨trivial, by omega, by omega⟩, by omega, Or.inr ⟨trivial, by omega, by omega⟩, by omega, Or.inr ⟨trivial, by omega, by omega⟩, c1.1.1.obj (by decide) (by decide) rfl, m_tell m1.1 m1.2.1 (hr _) (hr _) (hr _) (fun b0 υ gC fm => ?_) (fun b0 b1 b2 b3 b4 b5 b6 b7 b8 υ gA gC fm => ?_)⟩
    · have g1 := fm
      have gz : Fz mfz τ υ := g1.mono (fun a j w => by omega)
      exact lfI rfl (next υ _ _ _ _ nn1 (CI.z gz c1) ⟨g1.mi (fun a j w v => by omega) m1.1, gC, g1.mrows (fun j v => by omega) m1.2.2⟩ (SC.zm gz sc1))
    · omega
  · have fz : Fz cfr σ τ := fr.mono (fun a j w => by omega)
    have m1 := MM.z fz m
    have sc1 := SC.zc fz sc
    have f1 := fr
    have c1 : CI τ _ _ _ _ := ⟨hA, hC, f1.rowsI (fun a j w w2 v => by omega) c.2.2⟩
    have nn1 : NN (actN S N (scr (i + 5))) := NN.act nn sp (by omega) (by omega)
    have hsc1 := sc1.2
    have hl1 : ((zS τ 1).2 : Int) = (len : Int) := by rw [sc1.1]
    simp only [hsc1, zrI, zrL]
    refine ⟨by omega, Or.inr ⟨trivial, by omega, by omega⟩, by omega, Or.inr ⟨trivial, by omega, by omega⟩, by omega, Or.inr ⟨trivial, by omega, by omega⟩, by omega, Or.inr ⟨trivial, by omega, by omega⟩, by omega, Or.inr ⟨trivial, by omega, by omega⟩, c1.1.1.obj (by decide) (by decide) rfl, m_tell m1.1 m1.2.1 (hr _) (hr _) (hr _) (fun b0 υ gC fm => ?_) (fun b0 b1 b2 b3 b4 b5 b6 b7 b8 υ gA gC fm => ?_)⟩
    · omega
    · have g1 := fm
      have gz : Fz mfz τ υ := g1.mono (fun a j w => by omega)
      exact lfI rfl (next υ _ _ _ _ nn1 (CI.z gz c1) ⟨gA, gC, g1.mrows (fun j v => by omega) m1.2.2⟩ (SC.zm gz sc1))
theorem lw_lead {σ : ZM} {Q : ZQ} {S : Int → List Int} {N : List (Int × List Int)} {L : Int → LW} {R : Int → SQ} {scr : Int → Int} {len k1 k2 : Nat} {i : Int} (hr : ∀ j, -2147483648 ≤ scr j ∧ scr j ≤ 2147483647) (nn : NN N) (c : CI σ S N L R) (m : MM σ S N L R) (sc : SC σ scr len) (i0 : 0 ≤ i) (i6 : i + 6 < (len : Int)) (il : len ≤ 3584) (next : ∀ σ' S' N' L' R', NN N' → CI σ' S' N' L' R' → MM σ' S' N' L' R' → SC σ' scr len → WP m_Law__law 1338 [zr 1, zr 2, zr 192, zi i] [] σ' (k1, k2) Q) : WP m_Law__law 624 [zr 1, zr 2, zr 192, zi i] [] σ (k1, k2) Q := by
  have sp := c.pts
  have hsc := sc.2
  have hl : ((zS σ 1).2 : Int) = (len : Int) := by rw [sc.1]
  refine r_Law__law_624 ?_
  simp only [hsc]
  refine ⟨by omega, Or.inr ⟨trivial, by omega, by omega⟩, by omega, Or.inr ⟨trivial, by omega, by omega⟩, by omega, Or.inr ⟨trivial, by omega, by omega⟩, by omega, Or.inr ⟨trivial, by omega, by omega⟩, c.1.1.obj (by decide) (by decide) rfl, t_lead c.1 (fun a0 => ?_) (fun a0 a1 a2 a3 a4 a5 τ hA fr => ?_) (fun a0 a1 a2 a3 a4 a5 oc a6 τ hA fr => ?_)⟩
  · have c1 := c
    have m1 := m
    have sc1 := sc
    have nn1 := nn
    have hsc1 := sc1.2
    have hl1 : ((zS σ 1).2 : Int) = (len : Int) := by rw [sc1.1]
    simp only [hsc1, zrI, zrL]
    refine ⟨by omega, Or.inr ⟨trivial, by omega, by omega⟩, by omega, Or.inr ⟨trivial, by omega, by omega⟩, by omega, Or.inr ⟨trivial, by omega, by omega⟩, by omega, Or.inr ⟨trivial, by omega, by omega⟩, c1.1.1.obj (by decide) (by decide) rfl, m_lead m1.1 sp (hr _) (hr _) (hr _) (hr _) (fun b0 => ?_) (fun b0 b1 b2 b3 b4 b5 υ gA fm => ?_) (fun b0 b1 b2 b3 b4 b5 om b6 υ gA fm => ?_)⟩
    · exact lfI rfl (next _ _ _ _ _ nn1 c1 m1 sc1)
    · exact a0.elim (fun w => absurd b0 w) (fun w => by omega)
    · exact a0.elim (fun w => absurd b0 w) (fun w => by omega)
  · have fz : Fz cfr σ τ := fr.z (fun a j w => by omega)
    have m1 := MM.z fz m
    have sc1 := SC.zc fz sc
    have f1 : Fz (fun a _ => (lef) a) σ τ := fr.z (fun a j w => w)
    have c1 : CI τ _ _ _ _ := ⟨hA, f1.coI (fun a j w v => by omega) c.2.1, f1.rowsI (fun a j w w2 v => by omega) c.2.2⟩
    have nn1 := nn
    have hsc1 := sc1.2
    have hl1 : ((zS τ 1).2 : Int) = (len : Int) := by rw [sc1.1]
    simp only [hsc1, zrI, zrL]
    refine ⟨by omega, Or.inr ⟨trivial, by omega, by omega⟩, by omega, Or.inr ⟨trivial, by omega, by omega⟩, by omega, Or.inr ⟨trivial, by omega, by omega⟩, by omega, Or.inr ⟨trivial, by omega, by omega⟩, c1.1.1.obj (by decide) (by decide) rfl, m_lead m1.1 sp (hr _) (hr _) (hr _) (hr _) (fun b0 => ?_) (fun b0 b1 b2 b3 b4 b5 υ gA fm => ?_) (fun b0 b1 b2 b3 b4 b5 om b6 υ gA fm => ?_)⟩
    · exact b0.elim (fun w => absurd a0 w) (fun w => by omega)
    · have g1 := fm
      have gz : Fz mfz τ υ := g1.mono (fun a j w => by omega)
      exact lfI rfl (next υ _ _ _ _ nn1 (CI.z gz c1) ⟨gA, g1.mco (fun a j w v => by omega) m1.2.1, g1.mrows (fun j v => by omega) m1.2.2⟩ (SC.zm gz sc1))
    · exact absurd b5 a5
  · have fz : Fz cfr σ τ := fr.z (fun a j w => by omega)
    have m1 := MM.z fz m
    have sc1 := SC.zc fz sc
    have f1 : Fz (fun a _ => (lef) a) σ τ := fr.z (fun a j w => w)
    have c1 : CI τ _ _ _ _ := ⟨hA, f1.coI (fun a j w v => by omega) c.2.1, f1.rowsI (fun a j w w2 v => by omega) c.2.2⟩
    have nn1 : NN (actN S N (scr (i + 4))) := NN.act nn sp (by omega) (by omega)
    have hsc1 := sc1.2
    have hl1 : ((zS τ 1).2 : Int) = (len : Int) := by rw [sc1.1]
    simp only [hsc1, zrI, zrL]
    refine ⟨by omega, Or.inr ⟨trivial, by omega, by omega⟩, by omega, Or.inr ⟨trivial, by omega, by omega⟩, by omega, Or.inr ⟨trivial, by omega, by omega⟩, by omega, Or.inr ⟨trivial, by omega, by omega⟩, c1.1.1.obj (by decide) (by decide) rfl, m_lead m1.1 sp (hr _) (hr _) (hr _) (hr _) (fun b0 => ?_) (fun b0 b1 b2 b3 b4 b5 υ gA fm => ?_) (fun b0 b1 b2 b3 b4 b5 om b6 υ gA fm => ?_)⟩
    · exact b0.elim (fun w => absurd a0 w) (fun w => by omega)
    · exact absurd a5 b5
    · have ev : om = oc := LdR.uniq a0 (Or.inr rfl) b6 a6
      subst ev
      have g1 := fm
      have gz : Fz mfz τ υ := g1.mono (fun a j w => by omega)
      exact lfI rfl (next υ _ _ _ _ nn1 (CI.z gz c1) ⟨gA, g1.mco (fun a j w v => by omega) m1.2.1, g1.mrows (fun j v => by omega) m1.2.2⟩ (SC.zm gz sc1))
theorem lw_back {σ : ZM} {Q : ZQ} {S : Int → List Int} {N : List (Int × List Int)} {L : Int → LW} {R : Int → SQ} {scr : Int → Int} {len k1 k2 : Nat} {i : Int} (hr : ∀ j, -2147483648 ≤ scr j ∧ scr j ≤ 2147483647) (nn : NN N) (c : CI σ S N L R) (m : MM σ S N L R) (sc : SC σ scr len) (i0 : 0 ≤ i) (i6 : i + 6 < (len : Int)) (il : len ≤ 3584) (next : ∀ σ' S' N' L' R', NN N' → CI σ' S' N' L' R' → MM σ' S' N' L' R' → SC σ' scr len → WP m_Law__law 1338 [zr 1, zr 2, zr 192, zi i] [] σ' (k1, k2) Q) : WP m_Law__law 677 [zr 1, zr 2, zr 192, zi i] [] σ (k1, k2) Q := by
  have sp := c.pts
  have hsc := sc.2
  have hl : ((zS σ 1).2 : Int) = (len : Int) := by rw [sc.1]
  refine r_Law__law_677 ?_
  simp only [hsc]
  refine ⟨by omega, Or.inr ⟨trivial, by omega, by omega⟩, by omega, Or.inr ⟨trivial, by omega, by omega⟩, by omega, Or.inr ⟨trivial, by omega, by omega⟩, by omega, Or.inr ⟨trivial, by omega, by omega⟩, c.1.1.obj (by decide) (by decide) rfl, t_back c.1 (fun a0 => ?_) (fun a0 a1 a2 a3 a4 a5 τ hA fr => ?_) (fun a0 a1 a2 a3 a4 a5 oc a6 τ hA fr => ?_)⟩
  · have c1 := c
    have m1 := m
    have sc1 := sc
    have nn1 := nn
    have hsc1 := sc1.2
    have hl1 : ((zS σ 1).2 : Int) = (len : Int) := by rw [sc1.1]
    simp only [hsc1, zrI, zrL]
    refine ⟨by omega, Or.inr ⟨trivial, by omega, by omega⟩, by omega, Or.inr ⟨trivial, by omega, by omega⟩, by omega, Or.inr ⟨trivial, by omega, by omega⟩, by omega, Or.inr ⟨trivial, by omega, by omega⟩, c1.1.1.obj (by decide) (by decide) rfl, m_back m1.1 sp (hr _) (hr _) (hr _) (hr _) (fun b0 => ?_) (fun b0 b1 b2 b3 b4 b5 υ gA fm => ?_) (fun b0 b1 b2 b3 b4 b5 om b6 υ gA fm => ?_)⟩
    · exact lfI rfl (next _ _ _ _ _ nn1 c1 m1 sc1)
    · exact a0.elim (fun w => absurd b0 w) (fun w => by omega)
    · exact a0.elim (fun w => absurd b0 w) (fun w => by omega)
  · have fz : Fz cfr σ τ := fr.z (fun a j w => by omega)
    have m1 := MM.z fz m
    have sc1 := SC.zc fz sc
    have f1 : Fz (fun a _ => (lef) a) σ τ := fr.z (fun a j w => w)
    have c1 : CI τ _ _ _ _ := ⟨hA, f1.coI (fun a j w v => by omega) c.2.1, f1.rowsI (fun a j w w2 v => by omega) c.2.2⟩
    have nn1 := nn
    have hsc1 := sc1.2
    have hl1 : ((zS τ 1).2 : Int) = (len : Int) := by rw [sc1.1]
    simp only [hsc1, zrI, zrL]
    refine ⟨by omega, Or.inr ⟨trivial, by omega, by omega⟩, by omega, Or.inr ⟨trivial, by omega, by omega⟩, by omega, Or.inr ⟨trivial, by omega, by omega⟩, by omega, Or.inr ⟨trivial, by omega, by omega⟩, c1.1.1.obj (by decide) (by decide) rfl, m_back m1.1 sp (hr _) (hr _) (hr _) (hr _) (fun b0 => ?_) (fun b0 b1 b2 b3 b4 b5 υ gA fm => ?_) (fun b0 b1 b2 b3 b4 b5 om b6 υ gA fm => ?_)⟩
    · exact b0.elim (fun w => absurd a0 w) (fun w => by omega)
    · have g1 := fm
      have gz : Fz mfz τ υ := g1.mono (fun a j w => by omega)
      exact lfI rfl (next υ _ _ _ _ nn1 (CI.z gz c1) ⟨gA, g1.mco (fun a j w v => by omega) m1.2.1, g1.mrows (fun j v => by omega) m1.2.2⟩ (SC.zm gz sc1))
    · exact absurd b5 a5
  · have fz : Fz cfr σ τ := fr.z (fun a j w => by omega)
    have m1 := MM.z fz m
    have sc1 := SC.zc fz sc
    have f1 : Fz (fun a _ => (lef) a) σ τ := fr.z (fun a j w => w)
    have c1 : CI τ _ _ _ _ := ⟨hA, f1.coI (fun a j w v => by omega) c.2.1, f1.rowsI (fun a j w w2 v => by omega) c.2.2⟩
    have nn1 : NN (actN S N (scr (i + 4))) := NN.act nn sp (by omega) (by omega)
    have hsc1 := sc1.2
    have hl1 : ((zS τ 1).2 : Int) = (len : Int) := by rw [sc1.1]
    simp only [hsc1, zrI, zrL]
    refine ⟨by omega, Or.inr ⟨trivial, by omega, by omega⟩, by omega, Or.inr ⟨trivial, by omega, by omega⟩, by omega, Or.inr ⟨trivial, by omega, by omega⟩, by omega, Or.inr ⟨trivial, by omega, by omega⟩, c1.1.1.obj (by decide) (by decide) rfl, m_back m1.1 sp (hr _) (hr _) (hr _) (hr _) (fun b0 => ?_) (fun b0 b1 b2 b3 b4 b5 υ gA fm => ?_) (fun b0 b1 b2 b3 b4 b5 om b6 υ gA fm => ?_)⟩
    · exact b0.elim (fun w => absurd a0 w) (fun w => by omega)
    · exact absurd a5 b5
    · have ev : om = oc := LdR.uniq a0 (Or.inl rfl) b6 a6
      subst ev
      have g1 := fm
      have gz : Fz mfz τ υ := g1.mono (fun a j w => by omega)
      exact lfI rfl (next υ _ _ _ _ nn1 (CI.z gz c1) ⟨gA, g1.mco (fun a j w v => by omega) m1.2.1, g1.mrows (fun j v => by omega) m1.2.2⟩ (SC.zm gz sc1))
theorem lw_core {σ : ZM} {Q : ZQ} {S : Int → List Int} {N : List (Int × List Int)} {L : Int → LW} {R : Int → SQ} {scr : Int → Int} {len k1 k2 : Nat} {i : Int} (hr : ∀ j, -2147483648 ≤ scr j ∧ scr j ≤ 2147483647) (nn : NN N) (c : CI σ S N L R) (m : MM σ S N L R) (sc : SC σ scr len) (i0 : 0 ≤ i) (i6 : i + 6 < (len : Int)) (il : len ≤ 3584) (next : ∀ σ' S' N' L' R', NN N' → CI σ' S' N' L' R' → MM σ' S' N' L' R' → SC σ' scr len → WP m_Law__law 1338 [zr 1, zr 2, zr 192, zi i] [] σ' (k1, k2) Q) : WP m_Law__law 730 [zr 1, zr 2, zr 192, zi i] [] σ (k1, k2) Q := by
  have sp := c.pts
  have hsc := sc.2
  have hl : ((zS σ 1).2 : Int) = (len : Int) := by rw [sc.1]
  refine r_Law__law_730 ?_
  simp only [hsc]
  refine ⟨by omega, Or.inr ⟨trivial, by omega, by omega⟩, by omega, Or.inr ⟨trivial, by omega, by omega⟩, by omega, Or.inr ⟨trivial, by omega, by omega⟩, c.1.1.obj (by decide) (by decide) rfl, t_core c.1 (fun a0 => ?_) (fun a0 a1 a2 a3 a4 a5 τ hA fr => ?_)⟩
  · have c1 := c
    have m1 := m
    have sc1 := sc
    have nn1 := nn
    have hsc1 := sc1.2
    have hl1 : ((zS σ 1).2 : Int) = (len : Int) := by rw [sc1.1]
    simp only [hsc1, zrI, zrL]
    refine ⟨by omega, Or.inr ⟨trivial, by omega, by omega⟩, by omega, Or.inr ⟨trivial, by omega, by omega⟩, by omega, Or.inr ⟨trivial, by omega, by omega⟩, c1.1.1.obj (by decide) (by decide) rfl, m_core m1.1 sp (hr _) (hr _) (hr _) (fun b0 => ?_) (fun b0 b1 b2 b3 b4 b5 υ gA fm => ?_)⟩
    · exact lfI rfl (next _ _ _ _ _ nn1 c1 m1 sc1)
    · omega
  · have fz : Fz cfr σ τ := fr.z (fun a j w => by omega)
    have m1 := MM.z fz m
    have sc1 := SC.zc fz sc
    have f1 : Fz (fun a _ => (ccf) a) σ τ := fr.z (fun a j w => w)
    have c1 : CI τ _ _ _ _ := ⟨hA, f1.coI (fun a j w v => by omega) c.2.1, f1.rowsI (fun a j w w2 v => by omega) c.2.2⟩
    have nn1 : NN (actN S N (scr (i + 3))) := NN.act nn sp (by omega) (by omega)
    have hsc1 := sc1.2
    have hl1 : ((zS τ 1).2 : Int) = (len : Int) := by rw [sc1.1]
    simp only [hsc1, zrI, zrL]
    refine ⟨by omega, Or.inr ⟨trivial, by omega, by omega⟩, by omega, Or.inr ⟨trivial, by omega, by omega⟩, by omega, Or.inr ⟨trivial, by omega, by omega⟩, c1.1.1.obj (by decide) (by decide) rfl, m_core m1.1 sp (hr _) (hr _) (hr _) (fun b0 => ?_) (fun b0 b1 b2 b3 b4 b5 υ gA fm => ?_)⟩
    · omega
    · have g1 := fm
      have gz : Fz mfz τ υ := g1.mono (fun a j w => by omega)
      exact lfI rfl (next υ _ _ _ _ nn1 (CI.z gz c1) ⟨gA, g1.mco (fun a j w v => by omega) m1.2.1, g1.mrows (fun j v => by omega) m1.2.2⟩ (SC.zm gz sc1))
theorem lw_quotient {σ : ZM} {Q : ZQ} {S : Int → List Int} {N : List (Int × List Int)} {L : Int → LW} {R : Int → SQ} {scr : Int → Int} {len k1 k2 : Nat} {i : Int} (hr : ∀ j, -2147483648 ≤ scr j ∧ scr j ≤ 2147483647) (nn : NN N) (c : CI σ S N L R) (m : MM σ S N L R) (sc : SC σ scr len) (i0 : 0 ≤ i) (i6 : i + 6 < (len : Int)) (il : len ≤ 3584) (next : ∀ σ' S' N' L' R', NN N' → CI σ' S' N' L' R' → MM σ' S' N' L' R' → SC σ' scr len → WP m_Law__law 1338 [zr 1, zr 2, zr 192, zi i] [] σ' (k1, k2) Q) : WP m_Law__law 773 [zr 1, zr 2, zr 192, zi i] [] σ (k1, k2) Q := by
  have sp := c.pts
  have hsc := sc.2
  have hl : ((zS σ 1).2 : Int) = (len : Int) := by rw [sc.1]
  refine r_Law__law_773 ?_
  simp only [hsc]
  refine ⟨by omega, Or.inr ⟨trivial, by omega, by omega⟩, by omega, Or.inr ⟨trivial, by omega, by omega⟩, by omega, Or.inr ⟨trivial, by omega, by omega⟩, by omega, Or.inr ⟨trivial, by omega, by omega⟩, c.1.1.obj (by decide) (by decide) rfl, t_quotient c.1 (fun a0 => ?_) (fun a0 a1 a2 a3 a4 a5 a6 a7 τ hA fr => ?_)⟩
  · have c1 := c
    have m1 := m
    have sc1 := sc
    have nn1 := nn
    have hsc1 := sc1.2
    have hl1 : ((zS σ 1).2 : Int) = (len : Int) := by rw [sc1.1]
    simp only [hsc1, zrI, zrL]
    refine ⟨by omega, Or.inr ⟨trivial, by omega, by omega⟩, by omega, Or.inr ⟨trivial, by omega, by omega⟩, by omega, Or.inr ⟨trivial, by omega, by omega⟩, by omega, Or.inr ⟨trivial, by omega, by omega⟩, c1.1.1.obj (by decide) (by decide) rfl, m_quotient m1.1 sp (hr _) (hr _) (hr _) (hr _) (fun b0 => ?_) (fun b0 b1 b2 b3 b4 b5 b6 b7 υ gA fm => ?_)⟩
    · exact lfI rfl (next _ _ _ _ _ nn1 c1 m1 sc1)
    · omega
  · have fz : Fz cfr σ τ := fr.z (fun a j w => by omega)
    have m1 := MM.z fz m
    have sc1 := SC.zc fz sc
    have f1 : Fz (fun a _ => (ccf) a) σ τ := fr.z (fun a j w => w)
    have c1 : CI τ _ _ _ _ := ⟨hA, f1.coI (fun a j w v => by omega) c.2.1, f1.rowsI (fun a j w w2 v => by omega) c.2.2⟩
    have nn1 : NN (actN S N (scr (i + 4))) := NN.act nn sp (by omega) (by omega)
    have hsc1 := sc1.2
    have hl1 : ((zS τ 1).2 : Int) = (len : Int) := by rw [sc1.1]
    simp only [hsc1, zrI, zrL]
    refine ⟨by omega, Or.inr ⟨trivial, by omega, by omega⟩, by omega, Or.inr ⟨trivial, by omega, by omega⟩, by omega, Or.inr ⟨trivial, by omega, by omega⟩, by omega, Or.inr ⟨trivial, by omega, by omega⟩, c1.1.1.obj (by decide) (by decide) rfl, m_quotient m1.1 sp (hr _) (hr _) (hr _) (hr _) (fun b0 => ?_) (fun b0 b1 b2 b3 b4 b5 b6 b7 υ gA fm => ?_)⟩
    · omega
    · have g1 := fm
      have gz : Fz mfz τ υ := g1.mono (fun a j w => by omega)
      exact lfI rfl (next υ _ _ _ _ nn1 (CI.z gz c1) ⟨gA, g1.mco (fun a j w v => by omega) m1.2.1, g1.mrows (fun j v => by omega) m1.2.2⟩ (SC.zm gz sc1))
